section ON
variable {b e la idn rm ln c : Nat} {d : Int32} {C J M : Nat → Nat → Int32} {D L : Nat → Nat → Int64} {x : Int32}
def wC (ou : Int64) (C : Nat → Nat → Int32) (D : Nat → Nat → Int64) : Nat → Nat → Int32 := if (r2_isStuffBitDue 287 C D) = true then i2_takeStuffBit 287 (r2_nextOf 287 ou C D) C D else i2_takeBasicBit 287 (r2_nextOf 287 ou C D) C D
def wD (ou : Int64) (C : Nat → Nat → Int32) (D : Nat → Nat → Int64) : Nat → Nat → Int64 := if (r2_isStuffBitDue 287 C D) = true then D else m2_takeBasicBit 287 (r2_nextOf 287 ou C D) C D
theorem la_neg {la : Nat} (h : la ≤ 1) : (1 : Int32) - nI la = nI (1 - la) := by
  match la, h with
  | 0, _ => decide
  | 1, _ => decide
  | n + 2, h => omega
theorem wk_go (hid : idn ≤ 2047) (hrm : rm ≤ 1) (hln : ln ≤ 4) (hd : dOK rm ln d) (hM : ∀ j, j < 34 + byN rm ln → M 303 j = lvB idn rm ln d j) (h : WI idn rm ln d b e la C D) (hc : b ≤ c ∧ 4 * (c - b) + e ≤ b) (hin : b < 34 + byN rm ln ∨ e = 5) : ∃ b' e' la', WI idn rm ln d b' e' la' (wC (r2_outgoingBits (nI (2 * idn + rm)) (nI ln) d) C D) (wD (r2_outgoingBits (nI (2 * idn + rm)) (nI ln) d) C D) ∧ (b' ≤ c + 1 ∧ 4 * (c + 1 - b') + e' ≤ b') ∧ ∀ m, r11_onBus_11 (34 + byN rm ln) x (m + 1) c e b (nI la) M L = if nI c = x then nI la' else r11_onBus_11 (34 + byN rm ln) x m (c + 1) e' b' (nI la') M L := by
  obtain ⟨w1, w2, ⟨w3, w4⟩, ⟨w5, w6⟩, w7, w8⟩ := h.in_ hid hrm hln
  have hby := byN_le (rm := rm) hln
  unfold wC wD
  by_cases g : e = 5
  · subst g
    have en : r2_nextOf 287 (r2_outgoingBits (nI (2 * idn + rm)) (nI ln) d) C D = nI (1 - la) := by
      unfold r2_nextOf
      rw [if_pos (w1.mpr (Or.inr rfl)), if_pos (w2.mpr rfl), w8, la_neg w7]
    rw [if_pos (w2.mpr rfl), if_pos (w2.mpr rfl), en]
    refine ⟨b, 1, 1 - la, h.stuff w7, by omega, fun m => ?_⟩
    simp only [r11_onBus_11]
    rw [if_pos (c := nI b < nI (34 + byN rm ln) ∨ nI 5 = 5) (Or.inr (by decide)), if_pos (show nI 5 = 5 by decide), la_neg w7, if_pos (c := (¬ (nI (1 - la) = nI la)) ∨ (5 ≤ nI 5)) (Or.inr (by decide))]
  · have hbl : b < 34 + byN rm ln := by omega
    obtain ⟨xb, x1, x2⟩ := lvB_01 hid hrm hln hd hbl
    have en := h.nxt hid hrm hln hd g hbl
    rw [x2] at en
    have nd : ¬ (r2_isStuffBitDue 287 C D) = true := fun z => g (w2.mp z)
    rw [if_neg nd, if_neg nd, en]
    refine ⟨b + 1, tkS la xb e, xb, h.basic hid hrm hln g hbl x1 x2, ?_, fun m => ?_⟩
    · have : tkS la xb e ≤ e + 1 := by unfold tkS; split <;> omega
      omega
    · simp only [r11_onBus_11]
      have n5 : ¬ nI e = 5 := fun z => g ((nI_eq (b := 5) (by omega) (by omega)).mp z)
      have l5 : ¬ (5 : Int32) ≤ nI e := nI_ge (b := 5) (by omega) (by omega)
      rw [if_pos (c := nI b < nI (34 + byN rm ln) ∨ nI e = 5) (Or.inl (nI_lt hbl (by omega))), if_neg n5, hM b hbl, x2]
      congr 2
      unfold tkS
      by_cases q : xb = la
      · rw [if_pos q, if_neg (c := (¬ (nI xb = nI la)) ∨ (5 ≤ nI e)) (fun z => z.elim (fun z => z (by rw [q])) l5)]
      · rw [if_neg q, if_pos (c := (¬ (nI xb = nI la)) ∨ (5 ≤ nI e)) (Or.inl (fun z => q ((nI_eq (by omega) (by omega)).mp z)))]
theorem on_end {m s k : Nat} {z : Int32} (h1 : ¬ (b < 34 + byN rm ln ∨ e = 5)) (hb : b ≤ 66) (he : e ≤ 5) (hln : ln ≤ 4) : r11_onBus_11 (34 + byN rm ln) x (m + 1) c e b z M L = (if 0 ≤ x then (if (nI c) + 10 ≤ x then (-5) else 1) else (nI c) + 10) := by
  have hby := byN_le (rm := rm) hln
  simp only [r11_onBus_11]
  rw [if_neg (c := nI b < nI (34 + byN rm ln) ∨ nI e = 5) (fun q => q.elim (fun q => nI_nlt (a := b) (b := 34 + byN rm ln) (by omega) (by omega) q) (fun q => h1 (Or.inr ((nI_eq (b := 5) (by omega) (by omega)).mp q))))]
theorem wk_A {q : Nat} {ky : Int32} {mo : Nat} (hid : idn ≤ 2047) (hrm : rm ≤ 1) (hln : ln ≤ 4) (hd : dOK rm ln d) (hM : ∀ j, j < 34 + byN rm ln → M 303 j = lvB idn rm ln d j) (hq : q < 92) : ∀ n c b e la (C : Nat → Nat → Int32) (D : Nat → Nat → Int64) m, WI idn rm ln d b e la C D → (b ≤ c ∧ 4 * (c - b) + e ≤ b) → c + n = q → 100 ≤ c + m → (r10_walk_18 ky (nI ln) d mo (n + 1) c (r2_outgoingBits (nI (2 * idn + rm)) (nI ln) d) C D = nI (q + 1) ∧ (i10_walk_18 ky (nI ln) d mo (n + 1) c (r2_outgoingBits (nI (2 * idn + rm)) (nI ln) d) C D) 287 6 = r11_onBus_11 (34 + byN rm ln) (nI q) m c e b (nI la) M L) ∨ ∃ c', c' ≤ q ∧ r10_walk_18 ky (nI ln) d mo (n + 1) c (r2_outgoingBits (nI (2 * idn + rm)) (nI ln) d) C D = nI c' ∧ r11_onBus_11 (34 + byN rm ln) (nI q) m c e b (nI la) M L = (if (nI c') + 10 ≤ nI q then (-5) else 1) := by
  intro n
  induction n with
  | zero =>
    intro c b e la C D m h hc hn hm
    obtain ⟨w1, w2, ⟨w3, w4⟩, ⟨w5, w6⟩, w7, w8⟩ := h.in_ hid hrm hln
    have hby := byN_le (rm := rm) hln
    obtain ⟨m, rfl⟩ : ∃ m', m = m' + 1 := ⟨m - 1, by omega⟩
    simp only [r10_walk_18, i10_walk_18]
    by_cases g : b < 34 + byN rm ln ∨ e = 5
    · obtain ⟨b', e', la', k1, k2, k3⟩ := wk_go (x := nI q) (L := L) hid hrm hln hd hM h hc g
      rw [if_pos (w1.mpr g), if_pos (w1.mpr g), k3, show c = q by omega, if_pos rfl]
      exact Or.inl ⟨rfl, (k1.in_ hid hrm hln).2.2.2.2.2⟩
    · rw [if_neg (fun z => g (w1.mp z)), on_end (s := 0) (k := 0) g (by omega) w6 hln, if_pos (nI_pos' (by omega))]
      exact Or.inr ⟨c, by omega, rfl, rfl⟩
  | succ n ih =>
    intro c b e la C D m h hc hn hm
    obtain ⟨w1, w2, ⟨w3, w4⟩, ⟨w5, w6⟩, w7, w8⟩ := h.in_ hid hrm hln
    have hby := byN_le (rm := rm) hln
    obtain ⟨m, rfl⟩ : ∃ m', m = m' + 1 := ⟨m - 1, by omega⟩
    rw [r10_walk_18, i10_walk_18]
    by_cases g : b < 34 + byN rm ln ∨ e = 5
    · obtain ⟨b', e', la', k1, k2, k3⟩ := wk_go (x := nI q) (L := L) hid hrm hln hd hM h hc g
      rw [if_pos (w1.mpr g), if_pos (w1.mpr g), k3, if_neg (c := nI c = nI q) (fun z => by have := (nI_eq (a := c) (b := q) (by omega) (by omega)).mp z; omega)]
      exact ih (c + 1) b' e' la' _ _ m k1 k2 (by omega) (by omega)
    · rw [if_neg (fun z => g (w1.mp z)), if_neg (fun z => g (w1.mp z)), on_end (s := 0) (k := 0) g (by omega) w6 hln, if_pos (nI_pos' (by omega))]
      exact Or.inr ⟨c, by omega, rfl, rfl⟩
theorem wk_crc (hid : idn ≤ 2047) (hrm : rm ≤ 1) (hln : ln ≤ 4) (h : WI idn rm ln d b e la C D) (g : ¬ (b < 34 + byN rm ln ∨ e = 5)) : C 287 4 = crcF (lvB idn rm ln d) (19 + byN rm ln) := by
  obtain ⟨w1, w2, ⟨w3, w4⟩, -⟩ := h.in_ hid hrm hln
  obtain ⟨bf, J, hf, -, hb⟩ := h
  have q := bd_34 hid hrm hln (fun j hj => ⟨(hf.2.1 j hj).1, hb j hj⟩)
  have eB : bdN b bf = 19 + byN rm ln := by omega
  rw [show C 287 4 = _ from hf.2.2.2.2.2.1.2.2.2.1, eB, show min b (19 + byN rm ln) = 19 + byN rm ln by omega]
  exact crcF_congr _ (fun j hj => hb j (by omega))
theorem wk_B {ky : Int32} {mo : Nat} (hid : idn ≤ 2047) (hrm : rm ≤ 1) (hln : ln ≤ 4) (hd : dOK rm ln d) (hM : ∀ j, j < 34 + byN rm ln → M 303 j = lvB idn rm ln d j) (hx : ∀ c, c ≤ 82 → ¬ nI c = x) : ∀ n c b e la (C : Nat → Nat → Int32) (D : Nat → Nat → Int64) m, WI idn rm ln d b e la C D → (b ≤ c ∧ 4 * (c - b) + e ≤ b) → c + n = 82 → 100 ≤ c + m → ∃ c', c' ≤ 82 ∧ r10_walk_18 ky (nI ln) d mo n c (r2_outgoingBits (nI (2 * idn + rm)) (nI ln) d) C D = nI c' ∧ r11_onBus_11 (34 + byN rm ln) x m c e b (nI la) M L = (if 0 ≤ x then (if (nI c') + 10 ≤ x then (-5) else 1) else (nI c') + 10) ∧ (i10_walk_18 ky (nI ln) d mo n c (r2_outgoingBits (nI (2 * idn + rm)) (nI ln) d) C D) 287 4 = crcF (lvB idn rm ln d) (19 + byN rm ln) := by
  intro n
  induction n with
  | zero =>
    intro c b e la C D m h hc hn hm
    obtain ⟨w1, w2, ⟨w3, w4⟩, ⟨w5, w6⟩, w7, w8⟩ := h.in_ hid hrm hln
    have hby := byN_le (rm := rm) hln
    obtain ⟨m, rfl⟩ : ∃ m', m = m' + 1 := ⟨m - 1, by omega⟩
    have g : ¬ (b < 34 + byN rm ln ∨ e = 5) := fun g => by
      obtain ⟨b', e', la', k1, k2, -⟩ := wk_go (x := x) (L := L) hid hrm hln hd hM h hc g
      have k3 := (k1.in_ hid hrm hln).2.2
      omega
    simp only [r10_walk_18, i10_walk_18]
    rw [on_end (s := 0) (k := 0) g (by omega) w6 hln]
    exact ⟨c, by omega, rfl, rfl, wk_crc hid hrm hln h g⟩
  | succ n ih =>
    intro c b e la C D m h hc hn hm
    obtain ⟨w1, w2, ⟨w3, w4⟩, ⟨w5, w6⟩, w7, w8⟩ := h.in_ hid hrm hln
    have hby := byN_le (rm := rm) hln
    obtain ⟨m, rfl⟩ : ∃ m', m = m' + 1 := ⟨m - 1, by omega⟩
    simp only [r10_walk_18, i10_walk_18]
    by_cases g : b < 34 + byN rm ln ∨ e = 5
    · obtain ⟨b', e', la', k1, k2, k3⟩ := wk_go (x := x) (L := L) hid hrm hln hd hM h hc g
      rw [if_pos (w1.mpr g), if_pos (w1.mpr g), k3, if_neg (hx c (by omega))]
      exact ih (c + 1) b' e' la' _ _ m k1 k2 (by omega) (by omega)
    · rw [if_neg (fun z => g (w1.mp z)), if_neg (fun z => g (w1.mp z)), on_end (s := 0) (k := 0) g (by omega) w6 hln]
      exact ⟨c, by omega, rfl, rfl, wk_crc hid hrm hln h g⟩
/-- the first bit of the bus -/
theorem on_0 (hid : idn ≤ 2047) (hrm : rm ≤ 1) (hln : ln ≤ 4) (hM : ∀ j, j < 34 + byN rm ln → M 303 j = lvB idn rm ln d j) : r11_onBus (34 + byN rm ln) x M L = if nI 0 = x then 0 else r11_onBus_11 (34 + byN rm ln) x 133 1 1 1 (nI 0) M L := by
  have hby := byN_le (rm := rm) hln
  have lz : lvB idn rm ln d 0 = 0 := by
    unfold lvB layV
    rw [if_pos (by omega), hdr_bit hid hrm (by omega) 0 (by omega)]
    have : ((2 * idn + rm) * 64 + ln) / 2 ^ (18 - 0) % 2 = 0 := by omega
    rw [this]
    rfl
  unfold r11_onBus
  rw [r11_onBus_11, if_pos (c := nI 0 < nI (34 + byN rm ln) ∨ nI 0 = 5) (Or.inl (nI_lt (by omega) (by omega))), if_neg (show ¬ nI 0 = 5 by decide), hM 0 (by omega), lz, if_pos (c := (¬ ((0 : Int32) = (-1))) ∨ (5 ≤ nI 0)) (Or.inl (by decide))]
  rfl
theorem lay_row (hid : idn ≤ 2047) {I : Nat → Nat → Int32} {rmi : Int32} (hrm : rmN rmi = rm) : (bI (if rmi = 0 then false else true) = nI rm) ∧ (if bI (if rmi = 0 then false else true) = 1 then 0 else 8 * ln) = byN rm ln ∧ (∀ j, j < 34 + byN rm ln → (i11_lays 303 0 (nI idn) (bI (if rmi = 0 then false else true)) ln d I L) 303 j = lvB idn rm ln d j) ∧ ∀ a, a ≠ 303 → (i11_lays 303 0 (nI idn) (bI (if rmi = 0 then false else true)) ln d I L) a = I a := by
  have e1 : bI (if rmi = 0 then false else true) = nI rm := by rw [← hrm]; exact (rmN_b rmi).symm
  have e2 : (if bI (if rmi = 0 then false else true) = 1 then 0 else 8 * ln) = byN rm ln := by
    rw [e1, ← hrm]
    unfold rmN byN
    by_cases g : rmi = 0
    · rw [if_pos g, if_neg (show ¬ nI 0 = 1 by decide), if_neg (by decide)]
    · rw [if_neg g, if_pos (show nI 1 = 1 by decide), if_pos rfl]
  refine ⟨e1, e2, fun j hj => ?_, fun a ha => ?_⟩
  · rw [laysG e2, if_pos ⟨rfl, by omega, by omega⟩, e1, Nat.sub_zero]
    rfl
  · funext y
    rw [laysG e2, if_neg (fun z => ha z.1)]
theorem E_crc {idi rmi lni : Int32} : r10_crc idi rmi lni d C D = r11_crc idi rmi lni d J L := by
  unfold r10_crc r11_crc
  rw [← isF_eq]
  by_cases hf : r10_isFrame idi rmi lni d = true
  · rw [if_pos hf, if_pos hf]
    obtain ⟨idn, ln, i1, l1, rfl, rfl, hd⟩ := isF_N hf
    rw [keyO, nI_clamp (by omega)]
    obtain ⟨e1, e2, hM, -⟩ := lay_row (L := L) (I := J) (d := d) (ln := ln) (rmi := rmi) i1 rfl
    rw [e2]
    unfold i10_walk
    obtain ⟨c', -, -, -, k⟩ := wk_B (x := (-1)) (L := L) (ky := nI (2 * idn + rmN rmi)) (mo := 82) i1 (rmN_le rmi) l1 hd hM ((by decide +kernel : ∀ c, c ≤ 82 → ¬ nI c = (-1))) 81 1 1 1 0 _ _ 133 (WI.init (C := C) (D := D) i1 (rmN_le rmi) l1) (by omega) (by omega) (by omega)
    rw [show (82 : Nat) - 1 = 81 from rfl, k, crcOf_F, Nat.add_comm]
    exact crcF_congr _ (fun j hj => by rw [Nat.zero_add, hM j (by omega)])
  · rw [if_neg hf, if_neg hf]
theorem E_frameBits {idi rmi lni : Int32} : r10_frameBits idi rmi lni d C D = r11_frameBits idi rmi lni d J L := by
  unfold r10_frameBits r11_frameBits
  rw [← isF_eq]
  by_cases hf : r10_isFrame idi rmi lni d = true
  · rw [if_pos hf, if_pos hf]
    obtain ⟨idn, ln, i1, l1, rfl, rfl, hd⟩ := isF_N hf
    rw [keyO, nI_clamp (by omega)]
    obtain ⟨e1, e2, hM, -⟩ := lay_row (L := L) (I := J) (d := d) (ln := ln) (rmi := rmi) i1 rfl
    rw [e2]
    unfold r10_walk
    obtain ⟨c', -, k1, k2, -⟩ := wk_B (x := (-1)) (L := L) (ky := nI (2 * idn + rmN rmi)) (mo := 82) i1 (rmN_le rmi) l1 hd hM ((by decide +kernel : ∀ c, c ≤ 82 → ¬ nI c = (-1))) 81 1 1 1 0 _ _ 133 (WI.init (C := C) (D := D) i1 (rmN_le rmi) l1) (by omega) (by omega) (by omega)
    rw [show (82 : Nat) - 1 = 81 from rfl, k1, Nat.add_comm (byN _ _) 34, on_0 i1 (rmN_le rmi) l1 hM, if_neg (show ¬ nI 0 = (-1) by decide), k2, if_neg (show ¬ (0 : Int32) ≤ (-1) by decide)]
  · rw [if_neg hf, if_neg hf]
theorem E_frameBit {idi rmi lni : Int32} : r10_frameBit idi rmi lni d x C D = r11_frameBit idi rmi lni d x J L := by
  unfold r10_frameBit r11_frameBit
  rw [← isF_eq]
  by_cases hf : r10_isFrame idi rmi lni d = true
  · rw [if_pos hf, if_pos hf]
    obtain ⟨idn, ln, i1, l1, rfl, rfl, hd⟩ := isF_N hf
    rw [keyO, nI_clamp (n := ln) (by omega)]
    obtain ⟨e1, e2, hM, -⟩ := lay_row (L := L) (I := J) (d := d) (ln := ln) (rmi := rmi) i1 rfl
    rw [e2, Nat.add_comm (byN _ _) 34]
    by_cases g : x < 0
    · rw [if_pos (Or.inl g), if_neg (Int32.not_le.mpr g)]
    · rw [if_pos (Int32.not_lt.mp g), on_0 i1 (rmN_le rmi) l1 hM]
      by_cases g2 : x < 92
      · obtain ⟨q, hq, rfl⟩ : ∃ q, q < 92 ∧ x = nI q := by
          obtain ⟨q, q1, -, q3⟩ := within_nat (x := x) (a := 0) (b := 91) (by decide) (by decide) (by
            unfold r10_isWithin
            rw [if_neg]
            rintro (z | z)
            · exact g z
            · rw [Int32.lt_iff_toInt_lt] at z g2
              have z1 : (nI 91).toInt = 91 := by decide
              have z2 : (92 : Int32).toInt = 92 := by decide
              omega)
          exact ⟨q, by omega, q3⟩
        rw [if_neg (c := nI q < 0 ∨ ¬ nI q < 92) (fun z => z.elim g (fun z => z g2)), nI_clamp (by omega)]
        unfold r10_walk i10_walk
        rw [Nat.add_sub_cancel]
        have wi := WI.init (d := d) (C := C) (D := D) i1 (rmN_le rmi) l1
        cases q with
        | zero =>
          have hw : ∀ ou E F, r10_walk_18 (nI (2 * idn + rmN rmi)) (nI ln) d (0 + 1) 0 1 ou E F = nI 1 := fun _ _ _ => rfl
          rw [hw, if_neg (show ¬ nI 1 ≤ nI 0 by decide), if_pos rfl]
          exact (wi.in_ i1 (rmN_le rmi) l1).2.2.2.2.2
        | succ q =>
          rw [if_neg (c := nI 0 = nI (q + 1)) (fun z => by have := (nI_eq (a := 0) (b := q + 1) (by omega) (by omega)).mp z; omega)]
          rcases wk_A (L := L) (ky := nI (2 * idn + rmN rmi)) (mo := q + 1 + 1) i1 (rmN_le rmi) l1 hd hM hq q 1 1 1 0 _ _ 133 wi (by omega) (by omega) (by omega) with ⟨k1, k2⟩ | ⟨c', k0, k1, k2⟩
          · rw [k1, if_neg (nI_ge (by omega) (by omega)), k2]
          · rw [k1, if_pos (nI_le k0 (by omega)), k2]
      · rw [if_pos (c := x < 0 ∨ ¬ x < 92) (Or.inr g2)]
        have big : ∀ c, c ≤ 82 → ¬ nI c = x := fun c hc z => g2 (by rw [← z]; exact nI_lt (b := 92) (by omega) (by omega))
        obtain ⟨c', k0, -, k2, -⟩ := wk_B (x := x) (L := L) (ky := 0) (mo := 82) i1 (rmN_le rmi) l1 hd hM big 81 1 1 1 0 _ _ 133 (WI.init (C := C) (D := D) i1 (rmN_le rmi) l1) (by omega) (by omega) (by omega)
        rw [if_neg (big 0 (by omega)), k2, if_pos (Int32.not_lt.mp g), if_pos]
        rw [Int32.not_lt] at g2
        refine Int32.le_trans ?_ g2
        rw [show nI c' + 10 = nI (c' + 10) from nI_add _ 10]
        exact nI_le (b := 92) (by omega) (by omega)
  · rw [if_neg hf, if_neg hf]
end ON
