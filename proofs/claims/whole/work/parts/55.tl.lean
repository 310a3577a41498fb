/-! the tail of a frame -/
section TL
variable {t k l i : Nat} {C J : Nat → Nat → Int32} {D L : Nat → Nat → Int64} {x : Int32}
theorem o10 : ¬ (1 : Int32) = 0 := by decide
theorem uI_comm {a b c : Nat} {y z : Int32} (h : b ≠ c) : uI (uI J a b y) a c z = uI (uI J a c z) a b y := by
  funext p q
  simp only [uI_eq]
  by_cases h1 : p = a ∧ q = c
  · rw [if_pos h1, if_neg (fun g => h (g.2.symm.trans h1.2)), if_pos h1]
  · rw [if_neg h1]
    by_cases h2 : p = a ∧ q = b
    · rw [if_pos h2, if_pos h2]
    · rw [if_neg h2, if_neg h2, if_neg h1]
theorem en39 {s : Nat} (hs : s < 4) (hf : ∀ j, j < 4 → J 297 (256 * i + 5 * j + 34) = (if j = s then 1 else 0)) : ∀ n j, j ≤ s → s < j + n → i11_ends_39 i x n j J L = i11_goes i 8 (uI (uI (i11_unwaits i s J L) 297 (256 * i + 14) (((i11_unwaits i s J L) 297 (256 * i + 14)) + 1)) 297 (256 * i + 4) (((i11_unwaits i s J L) 297 (256 * i + 4)) - (bI (if (i11_unwaits i s J L) 297 (256 * i + 4) ≤ 0 then false else true)))) L := by
  intro n
  induction n with
  | zero => intro j g1 g2; exact absurd g2 (by omega)
  | succ n ih =>
    intro j g1 g2
    simp only [i11_ends_39]
    rw [hf j (by omega)]
    by_cases e : j = s
    · subst e
      rw [if_pos rfl, if_neg (by decide)]
    · rw [if_neg e, if_pos rfl]
      exact ih (j + 1) (by omega) (by omega)
theorem tcC (n : Nat) (hn : n < 2 ^ 31) : (if 0 < nI n - 1 then nI n - 1 else 0) = nI (n - 1) := by
  rcases Nat.eq_zero_or_pos n with q | q
  · subst q; decide
  · rw [nI_dec q]
    rcases Nat.eq_zero_or_pos (n - 1) with g | g
    · rw [g]; decide
    · rw [if_pos (show (0 : Int32) < nI (n - 1) from nI_lt (a := 0) g (by omega))]
theorem tcJ (n : Nat) (hn : n < 2 ^ 31) : nI n - bI (if nI n ≤ 0 then false else true) = nI (n - 1) := by
  rcases Nat.eq_zero_or_pos n with q | q
  · subst q; decide
  · rw [if_neg (nI_nle q hn)]
    exact nI_dec q
theorem NR.ends {b e T la : Nat} {bf : Nat → Nat} (hi : i < 4) (hlk : l < k) (ht : t < 2 ^ 27) (hx : x = 0 ∨ x = 1) (hL : LR l C J) (h : NB t k i C J) (hS : SR k i C J) (hX : J 297 (256 * i + 1) = 1 → ¬ C k 17 = (-1)) : NR (t + 1) k i (i6_endFrame k l x C D) D (i11_ends i x J L) := by
  have tr := tr_eq (L := L) h
  unfold i6_endFrame i11_ends
  rcases hx with rfl | rfl
  · rw [if_pos rfl, if_pos rfl]
    by_cases g : C k 9 = 0
    · rw [if_pos g, if_neg (fun q => (tr.mp q) g)]
      exact NR.enter (h.le (by omega)) (by decide) (by decide) (by decide)
    · rw [if_neg g, if_pos (tr.mpr g)]
      exact NR.fail hi hlk (by omega) (by omega) ht h hL
  · rw [if_neg o10, if_neg o10]
    by_cases g : C k 9 = 0
    · rw [if_pos g, if_neg (fun q => (tr.mp q) g)]
      exact NR.enter (h.le (by omega)) (by decide) (by decide) (by decide)
    · rw [if_neg g, if_pos (tr.mpr g)]
      have h1 : J 297 (256 * i + 1) = 1 := h.1.2.resolve_left (fun q => g (h.1.1.trans q))
      rcases hS with ⟨s1, -⟩ | ⟨s, w, s1, s2, s3, s4, s5⟩
      · exact absurd s1 (hX h1)
      · rw [en39 (by omega) s5 4 0 (by omega) (by omega), s4]
        obtain ⟨C1, hC1⟩ : ∃ C1, C1 = i3_removeAt (k + 3) 4 (nI s) C D := ⟨_, rfl⟩
        obtain ⟨J1, hJ1⟩ : ∃ J1, J1 = i11_unwaits i s J L := ⟨_, rfl⟩
        have hb : NB t k i C1 J1 := by rw [hC1, hJ1]; exact NB.rmv s3 s2 s1 h
        have e10 : C1 k 10 = C k 10 := by rw [hC1, rm_row (by omega)]
        have e14 : C1 (k + 1) 4 = C (k + 1) 4 := by rw [hC1, rm_row (by omega)]
        rw [← hC1, ← hJ1, ← e10, ← e14]
        obtain ⟨c10, n, n1, n2⟩ := hb.2.1
        rw [c10, n2, tcC n (by omega), tcJ n (by omega), uI_comm (by omega)]
        have hb2 : NB t k i (uI C1 k 10 (nI (n - 1))) (uI J1 297 (256 * i + 4) (nI (n - 1))) := NB.tc (n := n - 1) (Nat.le_refl _) (by omega) rfl rfl hb
        have hb3 := NB.sent (t' := t + 1) (by omega) hb2
        rw [uI_off _ _ _ (by omega), uI_ne _ _ _ (by omega)] at hb3
        exact NR.enter hb3 (by decide) (by decide) (by decide)
/-- one bit of the tail more -/
theorem FP.tail {b e T la : Nat} {bf : Nat → Nat} (h : FP b e T la bf k i C D J) (s : ¬ (b < bdN b bf + 15 ∨ e = 5)) (hT : T + 1 ≤ 9) : FP b e (T + 1) la bf k i (uI C (k + 15) 8 (nI T + 1)) D (uI J 297 (256 * i + 22) (nI T + 1)) := by
  have hb := h.b66
  obtain ⟨⟨c1, c2, c3, c4, c5, c6, c7, c8⟩, a2, a3, a4, a5, a6, a7, a8⟩ := h
  have hC : ∀ j, j ≠ 8 → (uI C (k + 15) 8 (nI T + 1)) (k + 15) j = C (k + 15) j := fun j g => uI_ne _ _ _ g
  have hJ : ∀ y, y ≠ 256 * i + 22 → (uI J 297 (256 * i + 22) (nI T + 1)) 297 y = J 297 y := fun y g => uI_ne _ _ _ g
  refine ⟨⟨c1, c2, c3, c4, hT, c6, c7, c8⟩, fun j hj => ⟨(a2 j hj).1, ?_⟩, ⟨(hC 0 (by decide)).trans a3.1, ?_⟩, ⟨(hC 6 (by decide)).trans a4.1, ?_⟩, ⟨(hC 7 (by decide)).trans a5.1, ?_⟩, ⟨(hC 1 (by decide)).trans a6.1, a6.2.1, (hC 3 (by decide)).trans a6.2.2.1, (hC 4 (by decide)).trans a6.2.2.2.1, (hC 5 (by decide)).trans a6.2.2.2.2⟩, ⟨by rw [uI_self, nI_1], fun g => absurd g s, fun _ => by rw [uI_self, nI_1]⟩, fun g => ?_⟩
  · rw [hJ _ (by omega)]; exact (a2 j hj).2
  · rw [hJ _ (by omega)]; exact a3.2
  · rw [hJ _ (by omega)]; exact a4.2
  · rw [hJ _ (by omega)]; exact a5.2
  · rw [hJ _ (by omega)] at g
    exact (a8 g).congr (by omega) (by rw [uI_off _ _ _ (by omega)]) rfl (fun s y e g1 g2 => hJ _ (by omega))
/-- NP with another frame -/
theorem NP.upd {C' J' : Nat → Nat → Int32} {D' : Nat → Nat → Int64} (h : NP k i C D J) (hC : ∀ b, b = 8 ∨ b = 12 ∨ b = 13 ∨ b = 14 ∨ b = 15 → C' k b = C k b) (hJ : ∀ s x, x = 256 * i + s → s = 0 ∨ s = 2 ∨ s = 3 ∨ s = 18 → J' 297 x = J 297 x) (hS : SR k i C' J') (hF : ∃ b e T la bf, FP b e T la bf k i C' D' J') : NP k i C' D' J' := by
  obtain ⟨a1, a2, a3, a4, a5, a6, -, -⟩ := h
  have e0 : J' 297 (256 * i) = J 297 (256 * i) := hJ 0 _ rfl (by omega)
  have e2 : J' 297 (256 * i + 2) = J 297 (256 * i + 2) := hJ 2 _ rfl (by omega)
  have e3 : J' 297 (256 * i + 3) = J 297 (256 * i + 3) := hJ 3 _ rfl (by omega)
  refine ⟨?_, ?_, ?_, ?_, ?_, ?_, hS, fun _ => hF⟩
  · rw [hC 8 (by omega), e0]; exact a1
  · rw [hC 12 (by omega), e2]; exact a2
  · rw [e0, e2]; exact a3
  · rw [e0, hC 13 (by omega), e3]; exact a4
  · rw [e0, hC 15 (by omega), e3]; exact a5
  · rw [e0, hC 14 (by omega), hJ 18 _ rfl (by omega)]; exact a6
theorem NR.tails {b e T la : Nat} {bf : Nat → Nat} (hi : i < 4) (hlk : l < k) (ht : t < 2 ^ 27) (hx : x = 0 ∨ x = 1) (hL : LR l C J) (h : NR t k i C D J) (hf : FP b e T la bf k i C D J) (s : ¬ (b < bdN b bf + 15 ∨ e = 5)) : NR (t + 1) k i (i6_actTail k l x C D) D (i11_tails i x J L) := by
  have hB := bdN_le hf.1.2.2.2.2.2.2.2
  have hB1 : 19 ≤ bdN b bf := by unfold bdN; split <;> omega
  have hbB := hf.1.2.1
  have hT := hf.1.2.2.2.2.1
  have tr := tr_eq (L := L) h.1
  have j22 := hf.2.2.2.2.2.2.1.2.2 s
  have c8 := hf.2.2.2.2.2.2.1.1
  have hL0 : LR l (uI C (k + 15) 8 (nI T + 1)) (uI J 297 (256 * i + 22) (nI T + 1)) := hL.congr (uI_off _ _ _ (by omega)) (fun y g1 g2 => uI_ne _ _ _ (by omega))
  have hN0 : NB t k i (uI C (k + 15) 8 (nI T + 1)) (uI J 297 (256 * i + 22) (nI T + 1)) := h.1.congr (fun a b g => by rw [uI_off _ _ _ (by unfold sC at g; omega)]) (fun s y e g => uI_ne _ _ _ (by unfold sJ at g; omega))
  have c9 : (uI C (k + 15) 8 (nI T + 1)) k 9 = C k 9 := by rw [uI_off _ _ _ (by omega)]
  have hS0 : SR k i (uI C (k + 15) 8 (nI T + 1)) (uI J 297 (256 * i + 22) (nI T + 1)) := h.2.2.2.2.2.2.2.1.congr (by rw [uI_off _ _ _ (by omega)]) (by rw [uI_off _ _ _ (by omega)]) (fun s y e g => uI_ne _ _ _ (by omega))
  unfold i6_actTail i11_tails
  rw [c8, j22]
  have T1 : nI T = 1 ↔ T = 1 := nI_eq (b := 1) (by omega) (by omega)
  have T2 : nI T = 2 ↔ T = 2 := nI_eq (b := 2) (by omega) (by omega)
  have T8 : nI T = 8 ↔ T = 8 := nI_eq (b := 8) (by omega) (by omega)
  have T9 : nI T = 9 ↔ T = 9 := nI_eq (b := 9) (by omega) (by omega)
  have L9 : nI T < 9 ↔ T < 9 := nI_ltI (b := 9) (by omega) (by omega)
  by_cases g9 : T = 9
  · rw [if_neg (show ¬ nI T = 1 from fun q => by have := T1.mp q; omega), if_neg (show ¬ nI T < 9 from fun q => by have := L9.mp q; omega), if_neg (show ¬ nI T = 1 from fun q => by have := T1.mp q; omega), if_pos (T9.mpr g9)]
    refine NR.ends (b := b) (e := e) (T := T) (la := la) (bf := bf) hi hlk ht hx hL0 hN0 hS0 (fun q => ?_)
    rw [uI_ne _ _ _ (by omega)] at q
    rw [uI_off _ _ _ (by omega)]
    exact (hf.2.2.2.2.2.2.2 q).1
  · have hf0 := hf.tail s (by omega)
    have hR0 : NR t k i (uI C (k + 15) 8 (nI T + 1)) D (uI J 297 (256 * i + 22) (nI T + 1)) := ⟨hN0, h.2.upd (fun b _ => by rw [uI_off _ _ _ (by omega)]) (fun s y e g => uI_ne _ _ _ (by omega)) hS0 ⟨_, _, _, _, _, hf0⟩⟩
    have hR1 : NR (t + 1) k i (uI C (k + 15) 8 (nI T + 1)) D (uI J 297 (256 * i + 22) (nI T + 1)) := ⟨hR0.1.le (by omega), hR0.2⟩
    by_cases g1 : T = 1
    · rw [if_pos (T1.mpr g1), if_pos (T1.mpr g1)]
      by_cases c : (C k 9 = 0) ∨ (¬ (x = 1))
      · rw [if_pos c, if_pos (c.elim (fun q => Or.inr (fun z => (tr.mp z) q)) Or.inl)]
        exact hR1
      · have c1 : ¬ C k 9 = 0 := fun q => c (Or.inl q)
        have c2 : x = 1 := Classical.byContradiction fun q => c (Or.inr q)
        rw [if_neg c, if_neg (fun q => q.elim (fun z => z c2) (fun z => z (tr.mpr c1)))]
        exact NR.fail hi hlk (by omega) (by omega) ht hN0 hL0
    · rw [if_neg (fun q => g1 (T1.mp q)), if_neg (fun q => g1 (T1.mp q)), if_pos (L9.mpr (by omega)), if_neg (fun q => g9 (T9.mp q))]
      rcases hx with rfl | rfl
      · rw [if_pos rfl, if_pos rfl]
        by_cases c : C k 9 = 0
        · rw [if_pos c, if_neg (fun q => (tr.mp q) c)]
          exact NR.fail hi hlk (by omega) (by omega) ht hN0 hL0
        · rw [if_neg c, if_pos (tr.mpr c)]
          exact NR.fail hi hlk (by omega) (by omega) ht hN0 hL0
      · rw [if_neg o10, if_neg o10]
        by_cases c : C k 9 = 0
        · have ntr : ¬ (r11_isTransmitting i J L) = true := fun q => (tr.mp q) c
          rw [if_pos c]
          have hacc : NR (t + 1) k i (if nI T = 8 then i6_acceptFrame k l (uI C (k + 15) 8 (nI T + 1)) D else uI C (k + 15) 8 (nI T + 1)) D (if (¬ (nI T = 8)) ∨ ((r11_isTransmitting i J L) = true) then uI J 297 (256 * i + 22) (nI T + 1) else i11_accepts i (uI J 297 (256 * i + 22) (nI T + 1)) L) := by
            by_cases g8 : nI T = 8
            · rw [if_pos g8, if_neg (fun q => q.elim (fun z => z g8) ntr)]
              have := NR.acc (L := L) hi hL0 hR0 (by omega) (by omega) hf0
              exact ⟨this.1.le (by omega), this.2⟩
            · rw [if_neg g8, if_pos (Or.inl g8)]
              exact hR1
          by_cases g2 : nI T = 2
          · rw [if_neg (show ¬ ((¬ nI T = 2) ∨ (r11_isTransmitting i J L) = true) from fun q => q.elim (fun z => z g2) ntr), chk_eq hf0 (by omega)]
            by_cases cr : (r2_isCrcRight (k + 15) (uI C (k + 15) 8 (nI T + 1)) D) = true
            · rw [if_pos (Or.inr cr), if_pos cr]
              exact hacc
            · rw [if_neg (fun q => q.elim (fun z => z g2) cr), if_neg cr]
              exact NR.fail hi hlk (by omega) (by omega) ht hN0 hL0
          · rw [if_pos (show (¬ nI T = 2) ∨ (r2_isCrcRight (k + 15) (uI C (k + 15) 8 (nI T + 1)) D) = true from Or.inl g2), if_pos (show (¬ nI T = 2) ∨ (r11_isTransmitting i J L) = true from Or.inl g2)]
            exact hacc
        · rw [if_neg c, if_pos (Or.inr (tr.mpr c)), if_pos (Or.inr (tr.mpr c))]
          exact hR1
end TL
