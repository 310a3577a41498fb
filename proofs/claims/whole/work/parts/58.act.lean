/-! a bit time of a node -/
section AT
variable {t k l i : Nat} {C J : Nat → Nat → Int32} {D L : Nat → Nat → Int64} {x : Int32}
theorem NR.le {t' : Nat} (h : NR t k i C D J) (ht : t ≤ t') : NR t' k i C D J := ⟨h.1.le ht, h.2⟩
/-- a count -/
theorem NB.c12 {m : Int32} (h : NB t k i C J) : NB t k i (uI C k 12 m) (uI J 297 (256 * i + 2) m) := h.congr (fun a b g => by rw [uI_eq, if_neg (by unfold sC at g; omega)]) (fun s y e g => uI_ne _ _ _ (by unfold sJ at g; omega))
theorem NR.c12 {m : Nat} (h : NR t k i C D J) (hm : m ≤ 10) (h5 : J 297 (256 * i) = 5 ∨ J 297 (256 * i) = 6 → m ≤ 5) (h7 : J 297 (256 * i) = 7 ∨ J 297 (256 * i) = 9 → m ≤ 7) (h8 : J 297 (256 * i) = 8 → m ≤ 2) : NR t k i (uI C k 12 (nI m)) D (uI J 297 (256 * i + 2) (nI m)) := by
  obtain ⟨hb, a1, a2, a3, a4, a5, a6, a7, a8⟩ := h
  have hC : ∀ b, b ≠ 12 → (uI C k 12 (nI m)) k b = C k b := fun b g => uI_ne _ _ _ g
  have hJ : ∀ s y, y = 256 * i + s → s ≠ 2 → (uI J 297 (256 * i + 2) (nI m)) 297 y = J 297 y := fun s y e g => uI_ne _ _ _ (by omega)
  have e0 : (uI J 297 (256 * i + 2) (nI m)) 297 (256 * i) = J 297 (256 * i) := hJ 0 _ rfl (by omega)
  have e3 : (uI J 297 (256 * i + 2) (nI m)) 297 (256 * i + 3) = J 297 (256 * i + 3) := hJ 3 _ rfl (by omega)
  refine ⟨hb.c12, ?_, ?_, ?_, ?_, ?_, ?_, a7.congr (hC 17 (by decide)) (by rw [uI_off _ _ _ (by omega)]) (fun s y e g => hJ s y e (by omega)), ?_⟩
  · rw [hC 8 (by decide), e0]; exact a1
  · rw [uI_self, uI_self]
  · rw [e0, uI_self]; exact ⟨m, rfl, hm, h5, h7, h8⟩
  · rw [e0, hC 13 (by decide), e3]; exact a4
  · rw [e0, hC 15 (by decide), e3]; exact a5
  · rw [e0, hC 14 (by decide), hJ 18 _ rfl (by omega)]; exact a6
  · rw [e0]
    intro g
    obtain ⟨b, e, T, la, bf, hf⟩ := a8 g
    exact ⟨b, e, T, la, bf, hf.congr (fun b => by rw [uI_off _ _ _ (by omega)]) rfl (hC 17 (by decide)) rfl (hJ 1 _ rfl (by omega)) (fun s y e g1 g2 => hJ s y e (by omega))⟩
theorem cnt_1 {n xb : Nat} (hx1 : xb ≤ 1) : (if nI xb = 1 then nI n + 1 else 0) = nI (if xb = 1 then n + 1 else 0) := by
  rcases (show xb = 0 ∨ xb = 1 by omega) with q | q <;> subst q
  · rw [if_neg (by decide), if_neg (by decide)]; rfl
  · rw [if_pos (by decide), if_pos rfl, nI_1]
theorem NR.join {xb : Nat} (hx : x = nI xb) (hx1 : xb ≤ 1) (h : NR t k i C D J) (p : J 297 (256 * i) = 2) : NR (t + 1) k i (i6_actJoining k l x C D) D (if (if x = 1 then (J 297 (256 * i + 2)) + 1 else 0) = 11 then i11_goes i 3 (uI J 297 (256 * i + 2) (if x = 1 then (J 297 (256 * i + 2)) + 1 else 0)) L else uI J 297 (256 * i + 2) (if x = 1 then (J 297 (256 * i + 2)) + 1 else 0)) := by
  subst hx
  obtain ⟨n, n1, n2, -, -, -⟩ := h.2.2.2.1
  unfold i6_actJoining
  rw [h.2.2.1, n1, cnt_1 hx1]
  obtain ⟨m, hm, hm2⟩ : ∃ m, (if xb = 1 then n + 1 else 0) = m ∧ m ≤ 11 := ⟨_, rfl, by split <;> omega⟩
  rw [hm]
  by_cases g : m < 11
  · rw [if_pos (show nI m < 11 from nI_lt (b := 11) g (by omega)), if_neg (show ¬ nI m = 11 from fun q => by have := (nI_eq (b := 11) (by omega) (by omega)).mp q; omega)]
    refine (NR.c12 h (by omega) ?_ ?_ ?_).le (by omega) <;> (rw [p]; intro q; first | exact absurd q (by decide) | (rcases q with q | q <;> exact absurd q (by decide)))
  · rw [if_neg (show ¬ nI m < 11 from nI_nlt (b := 11) (by omega) (by omega)), if_pos (show nI m = 11 by rw [show m = 11 by omega]; rfl)]
    exact (NR.enter h.1.c12 (by decide) (by decide) (by decide)).le (by omega)
theorem NR.recov {xb : Nat} (hlk : l < k) (hi : i < 4) (hx : x = nI xb) (hx1 : xb ≤ 1) (hL : LR l C J) (h : NR t k i C D J) (p : J 297 (256 * i) = 1) : NR (t + 1) k i (i6_actBusOff k l x C D) D (i11_recovers i x J L) := by
  subst hx
  obtain ⟨n, n1, n2, -, -, -⟩ := h.2.2.2.1
  have e13 := h.2.2.2.2.1 p
  obtain ⟨pp, oo, rr, -, -, -, -, -, -, -, -, -, -, l5, l6⟩ := hL
  unfold i6_actBusOff i11_recovers
  rw [h.2.2.1, n1, cnt_1 hx1, e13, l5, l6]
  obtain ⟨m, hm, hm2⟩ : ∃ m, (if xb = 1 then n + 1 else 0) = m ∧ m ≤ 11 := ⟨_, rfl, by split <;> omega⟩
  rw [hm]
  by_cases g : m < 11
  · rw [if_neg (show ¬ (11 : Int32) ≤ nI m from nI_ge (b := 11) g (by omega)), if_neg (show ¬ nI m = 11 from fun q => by have := (nI_eq (b := 11) (by omega) (by omega)).mp q; omega)]
    refine (NR.c12 h (by omega) ?_ ?_ ?_).le (by omega) <;> (rw [p]; intro q; first | exact absurd q (by decide) | (rcases q with q | q <;> exact absurd q (by decide)))
  · rw [if_pos (show (11 : Int32) ≤ nI m from nI_le (a := 11) (by omega) (by omega)), if_pos (show nI m = 11 by rw [show m = 11 by omega]; rfl)]
    have hb : NB t k i (uI (uI (uI C k 12 (nI m)) k 12 0) k 13 ((J 297 (256 * i + 3)) + 1)) (uI (uI (uI J 297 (256 * i + 2) (nI m)) 297 (256 * i + 2) 0) 297 (256 * i + 3) ((J 297 (256 * i + 3)) + 1)) := h.1.c12.c12.congr (fun a b g => by rw [uI_eq, if_neg (by unfold sC at g; omega)]) (fun s y e g => uI_ne _ _ _ (by unfold sJ at g; omega))
    by_cases c : J 297 (256 * i + 3) + 1 < nI rr
    · rw [if_pos c, if_pos c]
      obtain ⟨-, a1, a2, a3, a4, a5, a6, a7, a8⟩ := h
      refine ⟨hb.le (by omega), ?_, ?_, ?_, fun _ => ?_, fun q => ?_, fun q => ?_, a7.congr ?_ ?_ (fun s y e g => ?_), fun q => ?_⟩
      · simp [uI_eq]; exact a1
      · simp [uI_eq]
      · simp [uI_eq]; exact cB0 _
      · simp [uI_eq]
      · simp [uI_eq] at q; rw [p] at q; exact absurd q (by decide)
      · simp [uI_eq] at q; rw [p] at q; exact absurd q (by decide)
      · simp [uI_eq]
      · simp [uI_eq]
      · rw [uI_ne _ _ _ (by omega), uI_ne _ _ _ (by omega), uI_ne _ _ _ (by omega)]
      · simp [uI_eq] at q; rw [p] at q; exact absurd q (by decide)
    · rw [if_neg c, if_neg c]
      have hb2 := NB.rc (n := 0) (by omega) (NB.tc (t' := t) (n := 0) (y := 0) (z := 0) (Nat.le_refl _) (by omega) rfl rfl hb)
      exact (NR.enter hb2 (by decide) (by decide) (by decide)).le (by omega)
theorem NR.idle {xb : Nat} (hi : i < 4) (hlk : l < k) (ht : t < 2 ^ 27) (hx : x = nI xb) (hx1 : xb ≤ 1) (hL : LR l C J) (h : NR t k i C D J) (p : J 297 (256 * i) = 3) (hd : C k 16 = J 297 (256 * i + 26)) (hd2 : J 297 (256 * i + 26) = r11_drives i J L) : NR (t + 1) k i (i6_actIdle k l x C D) (m6_actIdle k l x C D) (i11_idles i x J L) := by
  unfold i6_actIdle m6_actIdle i11_idles
  rw [hd]
  by_cases x0 : x = 0
  · rw [if_pos x0, if_pos x0, if_pos x0]
    by_cases c : J 297 (256 * i + 26) = 0
    · rw [if_pos c]
      refine (NR.tbegin h.1 (fun q => ?_)).le (by omega)
      rw [hd2] at c
      unfold r11_drives at c
      obtain ⟨w, -, w2, w3, -⟩ := h.1.2.2.2.2.2.2.1
      rw [if_pos p, w3, ← w2, q] at c
      exact absurd c (by decide)
    · rw [if_neg c]
      exact (NR.rbegin h.1).le (by omega)
  · rw [if_neg x0, if_neg x0, if_neg x0]
    by_cases c : J 297 (256 * i + 26) = 0
    · rw [if_pos c, if_pos (show (if J 297 (256 * i + 26) = 0 then true else false) = true by rw [if_pos c])]
      exact NR.fail hi hlk (by omega) (by omega) ht (NB.role (Or.inr rfl) h.1) (hL.congr (uI_off _ _ _ (by omega)) (fun y g1 g2 => uI_ne _ _ _ (by omega)))
    · rw [if_neg c, if_neg (show ¬ (if J 297 (256 * i + 26) = 0 then true else false) = true by rw [if_neg c]; decide)]
      exact h.le (by omega)
theorem NR.flag (h : NR t k i C D J) (p : J 297 (256 * i) = 5 ∨ J 297 (256 * i) = 6) : NR (t + 1) k i (i6_actFlag k l C D) D (i11_flags i J L) := by
  obtain ⟨n, n1, -, n2, -, -⟩ := h.2.2.2.1
  have n3 := n2 p
  unfold i6_actFlag i11_flags
  rw [h.2.2.1, n1, nI_1, h.2.1]
  by_cases g : n + 1 < 6
  · rw [if_pos (show nI (n + 1) < 6 from nI_lt (b := 6) g (by omega)), if_neg (show ¬ nI (n + 1) = 6 from fun q => by have := (nI_eq (b := 6) (by omega) (by omega)).mp q; omega)]
    refine (NR.c12 h (by omega) (fun _ => by omega) (fun q => ?_) (fun q => ?_)).le (by omega)
    · rcases p with p | p <;> rw [p] at q <;> rcases q with q | q <;> exact absurd q (by decide)
    · rcases p with p | p <;> rw [p] at q <;> exact absurd q (by decide)
  · rw [if_neg (show ¬ nI (n + 1) < 6 from nI_nlt (b := 6) (by omega) (by omega)), if_pos (show nI (n + 1) = 6 by rw [show n + 1 = 6 by omega]; rfl)]
    obtain ⟨z, hz⟩ : ∃ z, z = (if J 297 (256 * i) = 5 then true else false) := ⟨_, rfl⟩
    rw [← hz]
    have hb : NB t k i (i6_enter k l 7 (uI (uI C k 12 (nI (n + 1))) k 15 (bI z)) D) (i11_goes i 7 (uI J 297 (256 * i + 2) (nI (n + 1))) L) := h.1.c12.k15.enter
    have hJ : ∀ b, b ≠ 256 * i + 3 → (uI (i11_goes i 7 (uI J 297 (256 * i + 2) (nI (n + 1))) L) 297 (256 * i + 3) (bI z)) 297 b = (i11_goes i 7 (uI J 297 (256 * i + 2) (nI (n + 1))) L) 297 b := fun b g => uI_ne _ _ _ g
    refine ⟨(hb.le (by omega)).congr (fun _ _ _ => rfl) (fun s y e g => hJ y (by unfold sJ at g; omega)), ?_, ?_, ?_, fun q => ?_, fun _ => ?_, fun q => ?_, Or.inl ⟨en_17, fun j hj => ?_⟩, fun q => ?_⟩
    · rw [en_8, hJ _ (by omega), go_0]
    · rw [en_12, hJ _ (by omega), go_2]
    · rw [hJ _ (by omega), hJ _ (by omega), go_0, go_2]; exact cB0 7
    · rw [hJ _ (by omega), go_0] at q; exact absurd q (by decide)
    · rw [en_off (by omega), uI_self, uI_self]
    · rw [hJ _ (by omega), go_0] at q; exact absurd q (by decide)
    · rw [hJ _ (by omega), go_fl (by decide) hj]
    · rw [hJ _ (by omega), go_0] at q; exact absurd q (by decide)
theorem NB.ex (h : NB t k i C J) : NB t k i (uI C k 15 0) (uI J 297 (256 * i + 3) 0) := (NB.k15 (b := false) h).congr (fun _ _ _ => rfl) (fun s y e g => uI_ne _ _ _ (by unfold sJ at g; omega))
theorem NR.ex (h : NR t k i C D J) (p : J 297 (256 * i) = 7) : NR t k i (uI C k 15 0) D (uI J 297 (256 * i + 3) 0) := by
  obtain ⟨hb, a1, a2, a3, a4, a5, a6, a7, a8⟩ := h
  refine ⟨hb.ex, ?_, ?_, ?_, fun q => ?_, fun _ => ?_, fun q => ?_, a7.congr ?_ ?_ (fun s y e g => ?_), fun q => ?_⟩
  · simp [uI_eq]; exact a1
  · simp [uI_eq]; exact a2
  · simp [uI_eq]; exact a3
  · simp [uI_eq] at q; rw [p] at q; exact absurd q (by decide)
  · rw [uI_self, uI_self]
  · simp [uI_eq] at q; rw [p] at q; exact absurd q (by decide)
  · simp [uI_eq]
  · simp [uI_eq]
  · rw [uI_ne _ _ _ (by omega)]
  · simp [uI_eq] at q; rw [p] at q; exact absurd q (by decide)
theorem NR.delim {xb : Nat} (hi : i < 4) (hlk : l < k) (ht : t < 2 ^ 27) (hx : x = nI xb) (hx1 : xb ≤ 1) (hL : LR l C J) (h : NR t k i C D J) (p : J 297 (256 * i) = 7) : NR (t + 1) k i (i6_actDelimiter k l x C D) D (i11_delimits i x J L) := by
  obtain ⟨n, n1, -, -, n2, -⟩ := h.2.2.2.1
  have n3 := n2 (Or.inl p)
  have e15 := h.2.2.2.2.2.1 p
  have h15 := h.1.2.2.2.2.1.2
  have hE := h.ex p
  have hL2 : LR l (uI C k 15 0) (uI J 297 (256 * i + 3) 0) := hL.congr (uI_off _ _ _ (by omega)) (fun y g1 g2 => uI_ne _ _ _ (by omega))
  have tr := tr_eq (L := L) hE.1
  rw [uI_ne _ _ _ (by decide)] at tr
  have p2 : (uI J 297 (256 * i + 3) 0) 297 (256 * i) = 7 := by rw [uI_ne _ _ _ (by omega)]; exact p
  unfold i6_actDelimiter i11_delimits
  rw [h.2.2.1, n1, nI_1]
  by_cases x1 : x = 1
  · rw [if_pos x1, if_pos x1]
    by_cases g : n + 1 < 8
    · rw [if_pos (show nI (n + 1) < 8 from nI_lt (b := 8) g (by omega)), if_neg (show ¬ nI n = 7 from fun q => by have := (nI_eq (b := 7) (by omega) (by omega)).mp q; omega)]
      refine (NR.c12 hE (by omega) (fun q => ?_) (fun _ => by omega) (fun q => ?_)).le (by omega)
      · rw [p2] at q; rcases q with q | q <;> exact absurd q (by decide)
      · rw [p2] at q; exact absurd q (by decide)
    · rw [if_neg (show ¬ nI (n + 1) < 8 from nI_nlt (b := 8) (by omega) (by omega)), if_pos (show nI n = 7 by rw [show n = 7 by omega]; rfl)]
      exact (NR.enter hE.1.c12 (by decide) (by decide) (by decide)).le (by omega)
  · rw [if_neg x1, if_neg x1]
    by_cases g0 : nI n = 0
    · rw [if_pos g0, if_pos g0]
      have z15 : (C k 15 = 0) ↔ ¬ ((if J 297 (256 * i + 3) = 1 then true else false) = true) := by
        rw [← e15]
        rcases h15 with q | q <;> rw [q] <;> decide
      by_cases c : (C k 15 = 0) ∨ (¬ (C k 9 = 0))
      · rw [if_pos c, if_pos (c.imp z15.mp tr.mpr)]
        exact hE.le (by omega)
      · rw [if_neg c, if_neg (fun q => c (q.imp z15.mpr tr.mp))]
        refine ⟨(NB.rcv (m := 8) (by omega) hE.1).le (by omega), hE.2.congr (fun b g _ _ _ _ => ?_) ?_ (fun b => ?_) (fun s y e g => ?_)⟩
        · unfold i6_raiseReceiveCounter; exact uI_ne _ _ _ g
        · rw [rcv_row (by omega)]
        · rw [rcv_row (by omega)]
        · unfold i11_receives; exact uI_ne _ _ _ (by unfold pS at g; omega)
    · rw [if_neg g0, if_neg g0]
      by_cases g : 7 ≤ n
      · rw [if_pos (show (7 : Int32) ≤ nI n from nI_le (a := 7) g (by omega)), if_pos (show (7 : Int32) ≤ nI n from nI_le (a := 7) g (by omega))]
        exact (NR.enter hE.1 (by decide) (by decide) (by decide)).le (by omega)
      · rw [if_neg (show ¬ (7 : Int32) ≤ nI n from nI_ge (b := 7) (by omega) (by omega)), if_neg (show ¬ (7 : Int32) ≤ nI n from nI_ge (b := 7) (by omega) (by omega))]
        exact NR.fail hi hlk (by omega) (by omega) ht hE.1 hL2
theorem NR.inter {xb : Nat} (hi : i < 4) (hlk : l < k) (hx : x = nI xb) (hx1 : xb ≤ 1) (hL : LR l C J) (h : NR t k i C D J) (p : J 297 (256 * i) = 8) : NR (t + 1) k i (i6_actIntermission k l x C D) (m6_actIntermission k l x C D) (i11_intermits i x J L) := by
  obtain ⟨n, n1, -, -, -, n2⟩ := h.2.2.2.1
  have n3 := n2 p
  have hb := NB.c12 (m := nI (n + 1)) h.1
  have hL2 : LR l (uI C k 12 (nI (n + 1))) (uI J 297 (256 * i + 2) (nI (n + 1))) := hL.congr (uI_off _ _ _ (by omega)) (fun y g1 g2 => uI_ne _ _ _ (by omega))
  have tr := tr_eq (L := L) hb
  rw [uI_ne _ _ _ (by decide)] at tr
  unfold i6_actIntermission m6_actIntermission i11_intermits
  rw [h.2.2.1, n1, nI_1]
  by_cases g : 3 ≤ n + 1
  · rw [if_pos (show (3 : Int32) ≤ nI (n + 1) from nI_le (a := 3) g (by omega)), if_pos (show (3 : Int32) ≤ nI (n + 1) from nI_le (a := 3) g (by omega)), if_pos (show (2 : Int32) ≤ nI n from nI_le (a := 2) (by omega) (by omega))]
    by_cases x0 : x = 0
    · rw [if_pos x0, if_pos x0, if_pos x0]
      exact (NR.rbegin hb).le (by omega)
    · rw [if_neg x0, if_neg x0, if_neg x0, pas_eq (L := L) hb hL2]
      have e : ((C k 9 = 0) ∨ (¬ ((r11_isPassiveNow i (uI J 297 (256 * i + 2) (nI (n + 1))) L) = true))) ↔ ((¬ ((r11_isTransmitting i (uI J 297 (256 * i + 2) (nI (n + 1))) L) = true)) ∨ (¬ ((r11_isPassiveNow i (uI J 297 (256 * i + 2) (nI (n + 1))) L) = true))) := by
        rw [tr]
        by_cases q : C k 9 = 0 <;> simp [q]
      by_cases c : (C k 9 = 0) ∨ (¬ ((r11_isPassiveNow i (uI J 297 (256 * i + 2) (nI (n + 1))) L) = true))
      · rw [if_pos c, if_pos (e.mp c)]
        exact (NR.enter hb (by decide) (by decide) (by decide)).le (by omega)
      · rw [if_neg c, if_neg (fun q => c (e.mpr q))]
        exact (NR.enter hb (by decide) (by decide) (by decide)).le (by omega)
  · rw [if_neg (show ¬ (3 : Int32) ≤ nI (n + 1) from nI_ge (b := 3) (by omega) (by omega)), if_neg (show ¬ (3 : Int32) ≤ nI (n + 1) from nI_ge (b := 3) (by omega) (by omega)), if_neg (show ¬ (2 : Int32) ≤ nI n from nI_ge (b := 2) (by omega) (by omega))]
    by_cases x0 : x = 0
    · rw [if_pos x0, if_pos x0]
      exact (NR.enter hb (by decide) (by decide) (by decide)).le (by omega)
    · rw [if_neg x0, if_neg x0]
      refine (NR.c12 h (by omega) (fun q => ?_) (fun q => ?_) (fun _ => by omega)).le (by omega)
      · rw [p] at q; rcases q with q | q <;> exact absurd q (by decide)
      · rw [p] at q; rcases q with q | q <;> exact absurd q (by decide)
theorem NR.susp (h : NR t k i C D J) (p : J 297 (256 * i) = 9) : NR (t + 1) k i (i6_actSuspend k l x C D) (m6_actSuspend k l x C D) (i11_suspends i x J L) := by
  obtain ⟨n, n1, -, -, n2, -⟩ := h.2.2.2.1
  have n3 := n2 (Or.inr p)
  have hb := NB.c12 (m := nI (n + 1)) h.1
  unfold i6_actSuspend m6_actSuspend i11_suspends
  rw [h.2.2.1, n1, nI_1]
  by_cases x0 : x = 0
  · rw [if_pos x0, if_pos x0, if_pos x0]
    exact (NR.rbegin hb).le (by omega)
  · rw [if_neg x0, if_neg x0, if_neg x0]
    by_cases g : n + 1 < 8
    · rw [if_pos (show nI (n + 1) < 8 from nI_lt (b := 8) g (by omega)), if_neg (show ¬ nI (n + 1) = 8 from fun q => by have := (nI_eq (b := 8) (by omega) (by omega)).mp q; omega)]
      refine (NR.c12 h (by omega) (fun q => ?_) (fun _ => by omega) (fun q => ?_)).le (by omega)
      · rw [p] at q; rcases q with q | q <;> exact absurd q (by decide)
      · rw [p] at q; exact absurd q (by decide)
    · rw [if_neg (show ¬ nI (n + 1) < 8 from nI_nlt (b := 8) (by omega) (by omega)), if_pos (show nI (n + 1) = 8 by rw [show n + 1 = 8 by omega]; rfl)]
      exact (NR.enter hb (by decide) (by decide) (by decide)).le (by omega)
/-- both act alike -/
theorem NR.act {xb : Nat} (hi : i < 4) (hlk : l < k) (ht : t < 2 ^ 27) (hx : x = nI xb) (hx1 : xb ≤ 1) (hL : LR l C J) (h : NR t k i C D J) (hd : C k 16 = J 297 (256 * i + 26)) (hd2 : J 297 (256 * i + 26) = r11_drives i J L) : NR (t + 1) k i (i6_act k l x C D) (m6_act k l x C D) (i11_acts i x J L) := by
  unfold i6_act m6_act i11_acts
  rw [h.2.1]
  by_cases p1 : J 297 (256 * i) = 1
  · simp only [if_pos p1]; exact NR.recov hlk hi hx hx1 hL h p1
  · simp only [if_neg p1]
    by_cases p2 : J 297 (256 * i) = 2
    · simp only [if_pos p2]; exact NR.join hx hx1 h p2
    · simp only [if_neg p2]
      by_cases p3 : J 297 (256 * i) = 3
      · simp only [if_pos p3]; exact NR.idle hi hlk ht hx hx1 hL h p3 hd hd2
      · simp only [if_neg p3]
        by_cases p4 : J 297 (256 * i) = 4
        · simp only [if_pos p4]
          obtain ⟨b, e, T, la, bf, hf⟩ := h.2.2.2.2.2.2.2.2 p4
          have hT := hf.1.2.2.2.2.1
          by_cases s : b < bdN b bf + 15 ∨ e = 5
          · rw [if_pos (hf.stuffed.mpr s), if_pos (hf.stuffed.mpr s), (hf.2.2.2.2.2.2.1.2.1 s).2, if_neg nn_m1]
            exact NR.stuffed hi hlk ht hx hx1 hL h hf s p4 hd hd2
          · rw [if_neg (fun q => s (hf.stuffed.mp q)), if_neg (fun q => s (hf.stuffed.mp q)), hf.2.2.2.2.2.2.1.2.2 s, if_pos (nI_pos' (by omega))]
            exact NR.tails hi hlk ht (by rw [hx]; rcases (show xb = 0 ∨ xb = 1 by omega) with q | q <;> subst q; exact Or.inl rfl; exact Or.inr rfl) hL h hf s
        · simp only [if_neg p4]
          by_cases p5 : J 297 (256 * i) = 5
          · simp only [if_pos p5]; exact NR.flag h (Or.inl p5)
          · simp only [if_neg p5]
            by_cases p6 : J 297 (256 * i) = 6
            · simp only [if_pos p6]; exact NR.flag h (Or.inr p6)
            · simp only [if_neg p6]
              by_cases p7 : J 297 (256 * i) = 7
              · simp only [if_pos p7]; exact NR.delim hi hlk ht hx hx1 hL h p7
              · simp only [if_neg p7]
                by_cases p8 : J 297 (256 * i) = 8
                · simp only [if_pos p8]; exact NR.inter hi hlk hx hx1 hL h p8
                · simp only [if_neg p8]
                  by_cases p9 : J 297 (256 * i) = 9
                  · simp only [if_pos p9]; exact NR.susp h p9
                  · simp only [if_neg p9]; exact h.le (by omega)
end AT
