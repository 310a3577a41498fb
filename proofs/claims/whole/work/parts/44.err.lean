/-! errors -/
section ER
variable {t k l i : Nat} {C J : Nat → Nat → Int32} {D L : Nat → Nat → Int64} {x : Int32}
/-- counters: receive -/
theorem NB.rcv {m : Nat} (hm : m ≤ 8) (h : NB t k i C J) : NB t k i (i6_raiseReceiveCounter k l (nI m) C D) (i11_receives i (nI m) J L) := by
  obtain ⟨a1, a2, ⟨a3, n, n1, n2⟩, a4, a5, a6, a7, a8, a9⟩ := h
  have e : (if C k 11 + nI m < 255 then C k 11 + nI m else 255) = nI (min (n + m) 255) ∧ (if J 297 (256 * i + 5) + nI m ≤ 255 then J 297 (256 * i + 5) + nI m else 255) = nI (min (n + m) 255) := by
    rw [a3, n2, nI_add]
    rcases Nat.lt_or_ge (n + m) 255 with q | q
    · rw [if_pos (show nI (n + m) < 255 from nI_lt (b := 255) q (by omega)), if_pos (show nI (n + m) ≤ 255 from nI_le (b := 255) (by omega) (by omega)), Nat.min_eq_left (by omega)]
      exact ⟨rfl, rfl⟩
    · rw [if_neg (show ¬ nI (n + m) < 255 from nI_nlt (b := 255) q (by omega)), Nat.min_eq_right q]
      refine ⟨rfl, ?_⟩
      rcases Nat.eq_or_lt_of_le q with q2 | q2
      · rw [← q2]; rfl
      · rw [if_neg (show ¬ nI (n + m) ≤ 255 from nI_ge (a := 255) q2 (by omega))]; rfl
  unfold i6_raiseReceiveCounter i11_receives
  rw [e.1, e.2]
  have hC : ∀ a b, ¬ (a = k ∧ b = 11) → (uI C k 11 (nI (min (n + m) 255))) a b = C a b := fun a b g => by rw [uI_eq, if_neg g]
  have hJ : ∀ s y, y = 256 * i + s → s ≠ 5 → (uI J 297 (256 * i + 5) (nI (min (n + m) 255))) 297 y = J 297 y := fun s y e g => uI_ne _ _ _ (by omega)
  refine ⟨?_, ?_, ⟨?_, min (n + m) 255, by omega, uI_self _ _ _ _⟩, ?_, ?_, a6.congr (fun b _ => hC _ _ (by omega)) (fun b _ => hC _ _ (by omega)) (fun s y e g1 g2 => hJ s y e (by omega)), a7.congr (hC _ _ (by omega)) (fun b _ => hC _ _ (by omega)) (fun b _ => hC _ _ (by omega)) (fun b _ => hC _ _ (by omega)) (fun s y e g => hJ s y e (by unfold wJ at g; omega)), a8.congr (hC _ _ (by omega)) (fun b _ => hC _ _ (by omega)) (fun b _ => hC _ _ (by omega)) (fun b _ => hC _ _ (by omega)) (fun s y e g => hJ s y e (by omega)), a9.congr (hC _ _ (by omega)) (fun b _ => hC _ _ (by omega)) (fun b _ => hC _ _ (by omega)) (fun b _ => hC _ _ (by omega)) (fun s y e g => hJ s y e (by omega))⟩
  · rw [hC k 9 (by omega), hJ 1 _ rfl (by omega)]; exact a1
  · rw [hC k 10 (by omega), hJ 4 _ rfl (by omega)]; exact a2
  · rw [uI_self, uI_self]
  · rw [hC k 6 (by omega), hC k 7 (by omega), hJ 16 _ rfl (by omega), hJ 17 _ rfl (by omega)]; exact a4
  · rw [hC k 14 (by omega), hC k 15 (by omega)]; exact a5
/-- counters: transmit, to any number that both have -/
theorem NB.tc {t' n : Nat} {y z : Int32} (ht : t ≤ t') (hn : n ≤ 8 * t') (hy : y = nI n) (hz : z = nI n) (h : NB t k i C J) : NB t' k i (uI C k 10 y) (uI J 297 (256 * i + 4) z) := by
  subst hy; subst hz
  obtain ⟨a1, a2, a3, a4, a5, a6, a7, a8, a9⟩ := h
  have hC : ∀ a b, ¬ (a = k ∧ b = 10) → (uI C k 10 (nI n)) a b = C a b := fun a b g => by rw [uI_eq, if_neg g]
  have hJ : ∀ s y, y = 256 * i + s → s ≠ 4 → (uI J 297 (256 * i + 4) (nI n)) 297 y = J 297 y := fun s y e g => uI_ne _ _ _ (by omega)
  refine ⟨?_, ⟨by rw [uI_self, uI_self], n, hn, uI_self _ _ _ _⟩, ?_, ?_, ?_, (a6.congr (fun b _ => hC _ _ (by omega)) (fun b _ => hC _ _ (by omega)) (fun s y e g1 g2 => hJ s y e (by omega))).le ht, a7.congr (hC _ _ (by omega)) (fun b _ => hC _ _ (by omega)) (fun b _ => hC _ _ (by omega)) (fun b _ => hC _ _ (by omega)) (fun s y e g => hJ s y e (by unfold wJ at g; omega)), a8.congr (hC _ _ (by omega)) (fun b _ => hC _ _ (by omega)) (fun b _ => hC _ _ (by omega)) (fun b _ => hC _ _ (by omega)) (fun s y e g => hJ s y e (by omega)), a9.congr (hC _ _ (by omega)) (fun b _ => hC _ _ (by omega)) (fun b _ => hC _ _ (by omega)) (fun b _ => hC _ _ (by omega)) (fun s y e g => hJ s y e (by omega))⟩
  · rw [hC k 9 (by omega), hJ 1 _ rfl (by omega)]; exact a1
  · rw [hC k 11 (by omega), hJ 5 _ rfl (by omega)]; exact a3
  · rw [hC k 6 (by omega), hC k 7 (by omega), hJ 16 _ rfl (by omega), hJ 17 _ rfl (by omega)]; exact a4
  · rw [hC k 14 (by omega), hC k 15 (by omega)]; exact a5
/-- an error is counted -/
theorem NB.cnt {kd : Nat} (h1 : 1 ≤ kd) (h5 : kd ≤ 5) (h : NB t k i C J) : NB t k i (i8_countError (k + 1) kd C D) (uI (uI J 297 (256 * i + kd + 5) ((J 297 (256 * i + kd + 5)) + 1)) 297 (256 * i + 11) (nI kd)) := by
  obtain ⟨a1, a2, a3, a4, a5, a6, a7, a8, a9⟩ := h
  have hC : ∀ a b, ¬ (a = k + 2 ∧ b = kd) ∧ ¬ (a = k + 1 ∧ b = 1) → (i8_countError (k + 1) kd C D) a b = C a b := fun a b g => by
    unfold i8_countError
    rw [uI_eq, if_neg (by omega), uI_eq, if_neg (by omega)]
  have hJ : ∀ s y, y = 256 * i + s → s ≠ kd + 5 ∧ s ≠ 11 → (uI (uI J 297 (256 * i + kd + 5) ((J 297 (256 * i + kd + 5)) + 1)) 297 (256 * i + 11) (nI kd)) 297 y = J 297 y := fun s y e g => by rw [uI_ne _ _ _ (by omega), uI_ne _ _ _ (by omega)]
  refine ⟨?_, ?_, ?_, ?_, ?_, ?_, a7.congr (hC _ _ (by omega)) (fun b _ => hC _ _ (by omega)) (fun b _ => hC _ _ (by omega)) (fun b _ => hC _ _ (by omega)) (fun s y e g => hJ s y e (by unfold wJ at g; omega)), a8.congr (hC _ _ (by omega)) (fun b _ => hC _ _ (by omega)) (fun b _ => hC _ _ (by omega)) (fun b _ => hC _ _ (by omega)) (fun s y e g => hJ s y e (by omega)), a9.congr (hC _ _ (by omega)) (fun b _ => hC _ _ (by omega)) (fun b _ => hC _ _ (by omega)) (fun b _ => hC _ _ (by omega)) (fun s y e g => hJ s y e (by omega))⟩
  · rw [hC k 9 (by omega), hJ 1 _ rfl (by omega)]; exact a1
  · rw [hC k 10 (by omega), hJ 4 _ rfl (by omega)]; exact a2
  · rw [hC k 11 (by omega), hJ 5 _ rfl (by omega)]; exact a3
  · rw [hC k 6 (by omega), hC k 7 (by omega), hJ 16 _ rfl (by omega), hJ 17 _ rfl (by omega)]; exact a4
  · rw [hC k 14 (by omega), hC k 15 (by omega)]; exact a5
  · obtain ⟨b1, -, b2, b3, b4, b5, s, s1, s2⟩ := a6
    refine ⟨fun q g1 g2 => ?_, ⟨kd, h5, uI_self _ _ _ _, ?_⟩, ?_, ?_, ?_, ?_, s, s1, ?_⟩
    · by_cases e : q = kd
      · subst e
        unfold i8_countError
        rw [uI_eq, if_neg (by omega), uI_self, uI_ne _ _ _ (by omega), uI_self, b1 q g1 g2]
      · rw [hC _ _ (by omega), hJ (q + 5) _ (by omega) (by omega)]; exact b1 q g1 g2
    · unfold i8_countError
      rw [uI_self, if_neg (by omega)]
    · rw [hC _ _ (by omega), hJ 12 _ rfl (by omega)]; exact b2
    · rw [hC _ _ (by omega), hJ 13 _ rfl (by omega)]; exact b3
    · rw [hC _ _ (by omega), hJ 15 _ rfl (by omega)]; exact b4
    · rw [hC _ _ (by omega), hJ 14 _ rfl (by omega)]; exact b5
    · rw [hJ 14 _ rfl (by omega)]; exact s2
def failC (k l kd : Nat) (C : Nat → Nat → Int32) (D : Nat → Nat → Int64) : Nat → Nat → Int32 := if C k 9 = 0 then i6_raiseReceiveCounter k l 1 (i8_countError (k + 1) kd C D) D else (if (¬ (nI kd = 5)) ∨ (¬ ((r6_isErrorPassive k l (i8_countError (k + 1) kd C D) D) = true)) then uI (i8_countError (k + 1) kd C D) k 10 ((C k 10) + 8) else i8_countError (k + 1) kd C D)
def erJ1 (i kd : Nat) (J : Nat → Nat → Int32) : Nat → Nat → Int32 := uI (uI J 297 (256 * i + kd + 5) ((J 297 (256 * i + kd + 5)) + 1)) 297 (256 * i + 11) (nI kd)
def erJ2 (i kd : Nat) (J : Nat → Nat → Int32) (L : Nat → Nat → Int64) : Nat → Nat → Int32 := if (r11_isTransmitting i (erJ1 i kd J) L) = true then (if (¬ (nI kd = 5)) ∨ (¬ ((r11_isPassiveNow i (erJ1 i kd J) L) = true)) then uI (erJ1 i kd J) 297 (256 * i + 4) (((erJ1 i kd J) 297 (256 * i + 4)) + 8) else erJ1 i kd J) else i11_receives i 1 (erJ1 i kd J) L
theorem fail_eq {kd : Nat} : i6_fail k l kd C D = if (failC k l kd C D) k 10 < C l 1 then i6_enter k l 5 (uI (failC k l kd C D) k 14 (bI (if (r6_isErrorPassive k l (failC k l kd C D) D) = true then false else true))) D else i6_enter k l 1 (failC k l kd C D) D := rfl
theorem errs_eq {kd : Nat} : i11_errs i kd J L = if (erJ2 i kd J L) 297 (256 * i + 4) < (erJ2 i kd J L) 297 1026 then uI (i11_goes i 5 (erJ2 i kd J L) L) 297 (256 * i + 18) (bI (if (r11_isPassiveNow i (i11_goes i 5 (erJ2 i kd J L) L) L) = true then false else true)) else i11_goes i 1 (erJ2 i kd J L) L := rfl
theorem bI_01 (b : Bool) : bI b = 0 ∨ bI b = 1 := bI_or b
/-- the flag's kind, the role -/
theorem NB.k14 {b : Bool} (h : NB t k i C J) : NB t k i (uI C k 14 (bI b)) J := by
  obtain ⟨a1, a2, a3, a4, a5, a6, a7, a8, a9⟩ := h
  have hC : ∀ a c, ¬ (a = k ∧ c = 14) → (uI C k 14 (bI b)) a c = C a c := fun a c g => by rw [uI_eq, if_neg g]
  refine ⟨?_, ?_, ?_, ?_, ⟨?_, ?_⟩, a6.congr (fun b _ => hC _ _ (by omega)) (fun b _ => hC _ _ (by omega)) (fun _ _ _ _ _ => rfl), a7.congr (hC _ _ (by omega)) (fun b _ => hC _ _ (by omega)) (fun b _ => hC _ _ (by omega)) (fun b _ => hC _ _ (by omega)) (fun _ _ _ _ => rfl), a8.congr (hC _ _ (by omega)) (fun b _ => hC _ _ (by omega)) (fun b _ => hC _ _ (by omega)) (fun b _ => hC _ _ (by omega)) (fun _ _ _ _ => rfl), a9.congr (hC _ _ (by omega)) (fun b _ => hC _ _ (by omega)) (fun b _ => hC _ _ (by omega)) (fun b _ => hC _ _ (by omega)) (fun _ _ _ _ => rfl)⟩
  · rw [hC k 9 (by omega)]; exact a1
  · rw [hC k 10 (by omega)]; exact a2
  · rw [hC k 11 (by omega)]; exact a3
  · rw [hC k 6 (by omega), hC k 7 (by omega)]; exact a4
  · rw [uI_self]; exact bI_01 b
  · rw [hC k 15 (by omega)]; exact a5.2
theorem NB.k15 {b : Bool} (h : NB t k i C J) : NB t k i (uI C k 15 (bI b)) J := by
  obtain ⟨a1, a2, a3, a4, a5, a6, a7, a8, a9⟩ := h
  have hC : ∀ a c, ¬ (a = k ∧ c = 15) → (uI C k 15 (bI b)) a c = C a c := fun a c g => by rw [uI_eq, if_neg g]
  refine ⟨?_, ?_, ?_, ?_, ⟨?_, ?_⟩, a6.congr (fun b _ => hC _ _ (by omega)) (fun b _ => hC _ _ (by omega)) (fun _ _ _ _ _ => rfl), a7.congr (hC _ _ (by omega)) (fun b _ => hC _ _ (by omega)) (fun b _ => hC _ _ (by omega)) (fun b _ => hC _ _ (by omega)) (fun _ _ _ _ => rfl), a8.congr (hC _ _ (by omega)) (fun b _ => hC _ _ (by omega)) (fun b _ => hC _ _ (by omega)) (fun b _ => hC _ _ (by omega)) (fun _ _ _ _ => rfl), a9.congr (hC _ _ (by omega)) (fun b _ => hC _ _ (by omega)) (fun b _ => hC _ _ (by omega)) (fun b _ => hC _ _ (by omega)) (fun _ _ _ _ => rfl)⟩
  · rw [hC k 9 (by omega)]; exact a1
  · rw [hC k 10 (by omega)]; exact a2
  · rw [hC k 11 (by omega)]; exact a3
  · rw [hC k 6 (by omega), hC k 7 (by omega)]; exact a4
  · rw [hC k 14 (by omega)]; exact a5.1
  · rw [uI_self]; exact bI_01 b
theorem NB.role {y : Int32} (hy : y = 0 ∨ y = 1) (h : NB t k i C J) : NB t k i (uI C k 9 y) (uI J 297 (256 * i + 1) y) := by
  obtain ⟨a1, a2, a3, a4, a5, a6, a7, a8, a9⟩ := h
  have hC : ∀ a c, ¬ (a = k ∧ c = 9) → (uI C k 9 y) a c = C a c := fun a c g => by rw [uI_eq, if_neg g]
  have hJ : ∀ s z, z = 256 * i + s → s ≠ 1 → (uI J 297 (256 * i + 1) y) 297 z = J 297 z := fun s z e g => uI_ne _ _ _ (by omega)
  refine ⟨⟨by rw [uI_self, uI_self], by rw [uI_self]; exact hy⟩, ?_, ?_, ?_, ?_, a6.congr (fun b _ => hC _ _ (by omega)) (fun b _ => hC _ _ (by omega)) (fun s y e g1 g2 => hJ s y e (by omega)), a7.congr (hC _ _ (by omega)) (fun b _ => hC _ _ (by omega)) (fun b _ => hC _ _ (by omega)) (fun b _ => hC _ _ (by omega)) (fun s y e g => hJ s y e (by unfold wJ at g; omega)), a8.congr (hC _ _ (by omega)) (fun b _ => hC _ _ (by omega)) (fun b _ => hC _ _ (by omega)) (fun b _ => hC _ _ (by omega)) (fun s y e g => hJ s y e (by omega)), a9.congr (hC _ _ (by omega)) (fun b _ => hC _ _ (by omega)) (fun b _ => hC _ _ (by omega)) (fun b _ => hC _ _ (by omega)) (fun s y e g => hJ s y e (by omega))⟩
  · rw [hC k 10 (by omega), hJ 4 _ rfl (by omega)]; exact a2
  · rw [hC k 11 (by omega), hJ 5 _ rfl (by omega)]; exact a3
  · rw [hC k 6 (by omega), hC k 7 (by omega), hJ 16 _ rfl (by omega), hJ 17 _ rfl (by omega)]; exact a4
  · rw [hC k 14 (by omega), hC k 15 (by omega)]; exact a5
theorem LR.congr {C' J' : Nat → Nat → Int32} (h : LR l C J) (hC : C' l = C l) (hJ : ∀ x, 1025 ≤ x → x ≤ 1027 → J' 297 x = J 297 x) : LR l C' J' := by
  obtain ⟨p, o, r, a1, a2, a3, a4, a5, a6, e1, e2, e3, e4, e5, e6⟩ := h
  exact ⟨p, o, r, a1, a2, a3, a4, a5, a6, by rw [hC]; exact e1, by rw [hJ 1025 (by omega) (by omega)]; exact e2, by rw [hC]; exact e3, by rw [hJ 1026 (by omega) (by omega)]; exact e4, by rw [hC]; exact e5, by rw [hJ 1027 (by omega) (by omega)]; exact e6⟩
theorem rcv_row {m : Int32} {a : Nat} (h : a ≠ k) : (i6_raiseReceiveCounter k l m C D) a = C a := by
  unfold i6_raiseReceiveCounter
  exact uI_off _ _ _ h
theorem cnt_row {kd a : Nat} (h : a ≠ k + 1 ∧ a ≠ k + 2) : (i8_countError (k + 1) kd C D) a = C a := by
  unfold i8_countError
  rw [uI_off _ _ _ h.1, uI_off _ _ _ h.2]
theorem failC_row {kd a : Nat} (h : a < k) : (failC k l kd C D) a = C a := by
  unfold failC
  (repeat' split)
  · rw [rcv_row (by omega), cnt_row (by omega)]
  · rw [uI_off _ _ _ (by omega), cnt_row (by omega)]
  · rw [cnt_row (by omega)]
theorem erJ1_off {kd b : Nat} (hk : kd ≤ 5) (h : b < 256 * i ∨ 256 * i + 256 ≤ b) : (erJ1 i kd J) 297 b = J 297 b := by
  unfold erJ1
  rw [uI_ne _ _ _ (by omega), uI_ne _ _ _ (by omega)]
theorem erJ2_off {kd b : Nat} (hk : kd ≤ 5) (h : b < 256 * i ∨ 256 * i + 256 ≤ b) : (erJ2 i kd J L) 297 b = J 297 b := by
  unfold erJ2
  (repeat' split)
  · rw [uI_ne _ _ _ (by omega), erJ1_off hk h]
  · rw [erJ1_off hk h]
  · unfold i11_receives
    rw [uI_ne _ _ _ (by omega), erJ1_off hk h]
theorem NB.flc {kd : Nat} (hi : i < 4) (hlk : l < k) (h1 : 1 ≤ kd) (h5 : kd ≤ 5) (ht : t < 2 ^ 27) (h : NB t k i C J) (hL : LR l C J) : NB (t + 1) k i (failC k l kd C D) (erJ2 i kd J L) := by
  have hc : NB t k i (i8_countError (k + 1) kd C D) (erJ1 i kd J) := h.cnt h1 h5
  have hl1 : LR l (i8_countError (k + 1) kd C D) (erJ1 i kd J) := hL.congr (cnt_row (by omega)) (fun x g1 g2 => erJ1_off h5 (by omega))
  have e9 : (i8_countError (k + 1) kd C D) k 9 = C k 9 := by rw [cnt_row (by omega)]
  have e10 : (i8_countError (k + 1) kd C D) k 10 = C k 10 := by rw [cnt_row (by omega)]
  have tr := tr_eq (L := L) hc
  rw [e9] at tr
  unfold failC erJ2
  by_cases g : C k 9 = 0
  · rw [if_pos g, if_neg (fun q => (tr.mp q) g)]
    exact (NB.rcv (m := 1) (by omega) hc).le (by omega)
  · rw [if_neg g, if_pos (tr.mpr g), pas_eq (L := L) hc hl1]
    split
    · obtain ⟨n, n1, n2⟩ := hc.2.1.2
      refine NB.tc (n := n + 8) (by omega) (by omega) ?_ ?_ hc
      · rw [← e10, hc.2.1.1, n2]; exact nI_add n 8
      · rw [n2]; exact nI_add n 8
    · exact hc.le (by omega)
theorem pas_go {x : Int32} (hi : i < 4) : r11_isPassiveNow i (i11_goes i x J L) L = r11_isPassiveNow i J L := by
  unfold r11_isPassiveNow
  rw [go_off (by omega) (by omega), go_off (by omega) (by omega), go_off (by omega) (by omega)]
/-- an error -/
theorem NR.fail {kd : Nat} (hi : i < 4) (hlk : l < k) (h1 : 1 ≤ kd) (h5 : kd ≤ 5) (ht : t < 2 ^ 27) (h : NB t k i C J) (hL : LR l C J) : NR (t + 1) k i (i6_fail k l kd C D) D (i11_errs i kd J L) := by
  have hf := h.flc (D := D) (L := L) hi hlk h1 h5 ht hL
  have hl2 : LR l (failC k l kd C D) (erJ2 i kd J L) := hL.congr (failC_row hlk) (fun x g1 g2 => erJ2_off h5 (by omega))
  rw [fail_eq, errs_eq]
  obtain ⟨p, o, r, -, -, -, -, -, -, -, -, e3, e4, -, -⟩ := id hl2
  rw [failC_row hlk] at e3
  rw [hf.2.1.1, e3, e4]
  split
  · rw [pas_go hi, pas_eq (L := L) hf hl2]
    obtain ⟨z, hz⟩ : ∃ z, z = (if (r11_isPassiveNow i (erJ2 i kd J L) L) = true then false else true) := ⟨_, rfl⟩
    rw [← hz]
    have hb : NB (t + 1) k i (i6_enter k l 5 (uI (failC k l kd C D) k 14 (bI z)) D) (i11_goes i 5 (erJ2 i kd J L) L) := hf.k14.enter
    have hJ : ∀ b, b ≠ 256 * i + 18 → (uI (i11_goes i 5 (erJ2 i kd J L) L) 297 (256 * i + 18) (bI z)) 297 b = (i11_goes i 5 (erJ2 i kd J L) L) 297 b := fun b g => uI_ne _ _ _ g
    refine ⟨hb.congr (fun _ _ _ => rfl) (fun s x e g => hJ x (by unfold sJ at g; omega)), ?_, ?_, ?_, fun g => ?_, fun g => ?_, fun _ => ?_, Or.inl ⟨en_17, fun j hj => ?_⟩, fun g => ?_⟩
    · rw [en_8, hJ _ (by omega), go_0]
    · rw [en_12, hJ _ (by omega), go_2]
    · rw [hJ _ (by omega), hJ _ (by omega), go_0, go_2]; exact cB0 5
    · rw [hJ _ (by omega), go_0] at g; exact absurd g (by decide)
    · rw [hJ _ (by omega), go_0] at g; exact absurd g (by decide)
    · rw [en_off (by omega), uI_self, uI_self]
    · rw [hJ _ (by omega), go_fl (by decide) hj]
    · rw [hJ _ (by omega), go_0] at g; exact absurd g (by decide)
  · exact NR.enter hf (by decide) (by decide) (by decide)
end ER
