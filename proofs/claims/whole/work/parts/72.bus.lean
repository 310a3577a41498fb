/-! how many frames a node has sent: one more in a bit time, or none -/
section BS
variable {t k l i : Nat} {C J C' : Nat → Nat → Int32} {D D' L : Nat → Nat → Int64} {x v : Int32}
theorem s4_u {a j : Nat} {y : Int32} (h : C (k + 1) 4 = v) (hc : ¬ (k + 1 = a ∧ 4 = j)) : (uI C a j y) (k + 1) 4 = v := by rw [uI_eq, if_neg hc]; exact h
theorem s4_i {c : Prop} [Decidable c] {E F : Nat → Nat → Int32} (h1 : E (k + 1) 4 = v) (h2 : F (k + 1) 4 = v) : (if c then E else F) (k + 1) 4 = v := by split <;> assumption
theorem s4_en (h : C (k + 1) 4 = v) : (i6_enter k l x C D) (k + 1) 4 = v := by
  have a1 : (uI (uI (uI (uI C k 8 x) k 12 0) k 13 0) k 17 (-1)) (k + 1) 4 = v := s4_u (s4_u (s4_u (s4_u h (by omega)) (by omega)) (by omega)) (by omega)
  have a2 := s4_i (c := (x < 4) ∨ (¬ (x ≤ 8))) (s4_u (a := k) (j := 9) (y := 0) a1 (by omega)) a1
  exact s4_i (s4_u a2 (by omega)) a2
theorem s4_fc {kd : Nat} (hk : 1 ≤ kd) (h : C (k + 1) 4 = v) : (failC k l kd C D) (k + 1) 4 = v := by
  have a1 : (i8_countError (k + 1) kd C D) (k + 1) 4 = v := s4_u (s4_u h (by omega)) (by omega)
  exact s4_i (s4_u a1 (by omega)) (s4_i (s4_u a1 (by omega)) a1)
theorem s4_fl {kd : Nat} (hk : 1 ≤ kd) (h : C (k + 1) 4 = v) : (i6_fail k l kd C D) (k + 1) 4 = v := by
  rw [fail_eq]
  exact s4_i (s4_en (s4_u (s4_fc hk h) (by omega))) (s4_en (s4_fc hk h))
theorem s4_r (e : C' (k + 1) = C (k + 1)) (h : C (k + 1) 4 = v) : C' (k + 1) 4 = v := by rw [e]; exact h
theorem s4_bg (h : C (k + 1) 4 = v) : (i6_beginFrame k l x C D) (k + 1) 4 = v := by
  have a1 : (i2_begin (k + 15) (uI (i6_enter k l 4 C D) k 9 x) D) (k + 1) 4 = v := s4_r (x2_begin (by omega)) (s4_u (s4_en h) (by omega))
  exact s4_i a1 (s4_u a1 (by omega))
theorem s4_ac (h : C (k + 1) 4 = v) : (i6_acceptFrame k l C D) (k + 1) 4 = v := by
  rw [acc_eqC]
  have a1 : (accC k l C) (k + 1) 4 = v := s4_i (s4_i h (s4_u h (by omega))) (s4_u h (by omega))
  exact s4_i (s4_i (s4_i (s4_u a1 (by omega)) (s4_r (x3_insertAt (by omega) (by omega) (by omega) (by omega)) a1)) (s4_r (x6_enqueue (by omega) (by omega) (by omega) (by omega) (by omega)) a1)) a1
/-- none, or one more -/
def s5 (k : Nat) (v : Int32) (C : Nat → Nat → Int32) : Prop := C (k + 1) 4 = v ∨ C (k + 1) 4 = v + 1
theorem s5_i {c : Prop} [Decidable c] {E F : Nat → Nat → Int32} (h1 : s5 k v E) (h2 : s5 k v F) : s5 k v (if c then E else F) := by split <;> assumption
theorem s5_ef (h : C (k + 1) 4 = v) : s5 k v (i6_endFrame k l x C D) := by
  unfold i6_endFrame
  refine s5_i (s5_i (Or.inl (s4_en h)) (Or.inl (s4_fl (by omega) h))) ?_
  by_cases g : C k 9 = 0
  · rw [if_pos g]; exact Or.inl (s4_en h)
  · rw [if_neg g]
    exact Or.inr (s4_en (by rw [uI_self, h]))
theorem s5_act (h : C (k + 1) 4 = v) : s5 k v (i6_act k l x C D) := by
  unfold i6_act
  have u12 : ∀ y, (uI C k 12 y) (k + 1) 4 = v := fun y => s4_u h (by omega)
  have u8 : ∀ y, (uI C (k + 15) 8 y) (k + 1) 4 = v := fun y => s4_u h (by omega)
  have u15 : ∀ y, (uI C k 15 y) (k + 1) 4 = v := fun y => s4_u h (by omega)
  have tb : (i2_takeBasicBit (k + 15) x C D) (k + 1) 4 = v := s4_r (x2_takeBasicBit (by omega)) h
  have lo : (uI (uI (uI C k 9 0) k 17 (-1)) (k + 1) 2 ((C (k + 1) 2) + 1)) (k + 1) 4 = v := s4_u (s4_u (s4_u h (by omega)) (by omega)) (by omega)
  have tl : (i2_takeBasicBit (k + 15) x (uI (uI (uI C k 9 0) k 17 (-1)) (k + 1) 2 ((C (k + 1) 2) + 1)) D) (k + 1) 4 = v := s4_r (x2_takeBasicBit (by omega)) lo
  refine s5_i (Or.inl ?_) (s5_i (Or.inl ?_) (s5_i (Or.inl ?_) (s5_i (s5_i (Or.inl ?_) ?_) (s5_i (Or.inl ?_) (s5_i (Or.inl ?_) (s5_i (Or.inl ?_) (s5_i (Or.inl ?_) (s5_i (Or.inl ?_) (Or.inl h)))))))))
  · unfold i6_actBusOff
    exact s4_i (s4_i (s4_u (s4_u (u12 _) (by omega)) (by omega)) (s4_en (s4_u (s4_u (s4_u (s4_u (u12 _) (by omega)) (by omega)) (by omega)) (by omega)))) (u12 _)
  · unfold i6_actJoining
    exact s4_i (u12 _) (s4_en (u12 _))
  · unfold i6_actIdle
    exact s4_i (s4_bg h) (s4_i (s4_fl (by omega) (s4_u h (by omega))) h)
  · unfold i6_actStuffedPart
    refine s4_i (s4_i (s4_fl (by split <;> omega) h) (s4_r (x2_takeStuffBit (by omega)) h)) ?_
    unfold i6_actBasicBit
    exact s4_i (s4_i tb (s4_fl (by omega) tb)) (s4_i (s4_fl (by omega) h) (s4_i (s4_fl (by omega) tl) tl))
  · unfold i6_actTail
    refine s5_i (s5_i (Or.inl (u8 _)) (Or.inl (s4_fl (by omega) (u8 _)))) (s5_i (s5_i (Or.inl (s4_fl (by split <;> omega) (u8 _))) (s5_i (s5_i (s5_i (Or.inl (s4_ac (u8 _))) (Or.inl (u8 _))) (Or.inl (s4_fl (by omega) (u8 _)))) (Or.inl (u8 _)))) (s5_ef (u8 _)))
  · unfold i6_actFlag
    exact s4_i (u12 _) (s4_en (s4_u (u12 _) (by omega)))
  · unfold i6_actFlag
    exact s4_i (u12 _) (s4_en (s4_u (u12 _) (by omega)))
  · unfold i6_actDelimiter
    exact s4_i (s4_i (s4_u (u15 _) (by omega)) (s4_en (s4_u (u15 _) (by omega)))) (s4_i (s4_i (u15 _) (s4_u (u15 _) (by omega))) (s4_i (s4_en (u15 _)) (s4_fl (by omega) (u15 _))))
  · unfold i6_actIntermission
    exact s4_i (s4_i (s4_bg (u12 _)) (s4_en (u12 _))) (s4_i (s4_en (u12 _)) (u12 _))
  · unfold i6_actSuspend
    exact s4_i (s4_bg (u12 _)) (s4_i (u12 _) (s4_en (u12 _)))
theorem s4_p0 {B j : Nat} {z : Int32} (hj : j < 4) : (i1_dropBefore (B + 67) ((C B 4) + 1) (uI (uI C (B + 70) (((C B 4) &&& 255).toNatClampNeg) z) B 4 ((C B 4) + 1)) D) (B + 3 + 16 * j + 1) = C (B + 3 + 16 * j + 1) := by
  rw [x1_dropBefore (by omega) (by omega) (by omega), uI_off _ _ _ (by omega), uI_off _ _ _ (by omega)]
theorem s4_hi {B j : Nat} (hj : j < 4) : ∀ n i (z y : Int32) (C : Nat → Nat → Int32) (D : Nat → Nat → Int64), i + n = 4 → j < i → (i0_passBit_41 B n i z y C D) (B + 3 + 16 * j + 1) 4 = C (B + 3 + 16 * j + 1) 4 := by
  intro n
  induction n with
  | zero => intro i z y C D _ _; simp only [i0_passBit_41]; rw [s4_p0 hj]
  | succ n ih =>
    intro i z y C D hi h
    simp only [i0_passBit_41]
    rw [ih _ _ _ _ _ (by omega) (by omega), x6_act (by omega) (by omega) (by omega) (by omega) (by omega) (by omega) (by omega) (by omega) (by omega) (by omega) (by omega) (by omega)]
theorem s5_lo {B j : Nat} (hj : j < 4) : ∀ n i (z y : Int32) (C : Nat → Nat → Int32) (D : Nat → Nat → Int64), i + n = 4 → s5 (B + 3 + 16 * j) (C (B + 3 + 16 * j + 1) 4) (i0_passBit_41 B n i z y C D) := by
  intro n
  induction n with
  | zero => intro i z y C D _; exact Or.inl (by simp only [i0_passBit_41]; rw [s4_p0 hj])
  | succ n ih =>
    intro i z y C D hi
    simp only [i0_passBit_41]
    by_cases e : i = j
    · subst e
      have q := s5_act (l := B + 1) (x := z ^^^ ((y >>> ((nI i) &&& 31)) &&& 1)) (D := D) (k := B + 3 + 16 * i) (C := C) rfl
      unfold s5 at q ⊢
      rw [s4_hi hj _ _ _ _ _ _ (by omega) (by omega)]
      exact q
    · have q := ih (i + 1) z y (i6_act (B + 3 + 16 * i) (B + 1) (z ^^^ ((y >>> ((nI i) &&& 31)) &&& 1)) C D) (m6_act (B + 3 + 16 * i) (B + 1) (z ^^^ ((y >>> ((nI i) &&& 31)) &&& 1)) C D) (by omega)
      have o : (i6_act (B + 3 + 16 * i) (B + 1) (z ^^^ ((y >>> ((nI i) &&& 31)) &&& 1)) C D) (B + 3 + 16 * j + 1) = C (B + 3 + 16 * j + 1) := x6_act (by omega) (by omega) (by omega) (by omega) (by omega) (by omega) (by omega) (by omega) (by omega) (by omega) (by omega) (by omega)
      rw [o] at q
      exact q
theorem s5_4 {B j : Nat} (hj : j < 4) : ∀ n i (z : Int32) (C : Nat → Nat → Int32), i + n = 4 → s5 (B + 3 + 16 * j) (C (B + 3 + 16 * j + 1) 4) (i0_passBit_4 B n i z C D) := by
  intro n
  induction n with
  | zero => intro i z C _; simp only [i0_passBit_4]; exact s5_lo hj _ _ _ _ _ _ (by omega)
  | succ n ih =>
    intro i z C hi
    simp only [i0_passBit_4]
    have q := ih (i + 1) (z &&& (r6_drive (B + 3 + 16 * i) (B + 1) C D)) (i6_drive (B + 3 + 16 * i) (B + 1) C D) (by omega)
    unfold i6_drive at q ⊢
    rw [uI_off _ _ _ (by omega)] at q
    exact q
theorem sent_up {B j : Nat} (hj : j < 4) : (i0_passBit B C D) (B + 3 + 16 * j + 1) 4 = C (B + 3 + 16 * j + 1) 4 ∨ (i0_passBit B C D) (B + 3 + 16 * j + 1) 4 = C (B + 3 + 16 * j + 1) 4 + 1 := by
  unfold i0_passBit
  exact s5_4 hj 4 0 1 C (by omega)
/-! the prediction -/
theorem sp_1 {nd : Int32} {ni : Nat} : ∀ n j (J : Nat → Nat → Int32), ∃ K, (∀ a, a ≠ 298 → K a = J a) ∧ (∀ b, (b < j ∨ j + n ≤ b) → K 298 b = J 298 b) ∧ (∀ b, j ≤ b → b < j + n → K 298 b = J 297 b) ∧ i11_bitsUntilSent_11 nd n j ni J L = i11_bitsUntilSent_50 nd 1000 0 ni (K 297 (256 * ni + 14)) K L ∧ r11_bitsUntilSent_11 nd n j ni J L = r11_bitsUntilSent_50 nd 1000 0 ni (K 297 (256 * ni + 14)) K L := by
  intro n
  induction n with
  | zero => intro j J; exact ⟨J, fun _ _ => rfl, fun _ _ => rfl, fun b h1 h2 => absurd h2 (by omega), rfl, rfl⟩
  | succ n ih =>
    intro j J
    simp only [i11_bitsUntilSent_11, r11_bitsUntilSent_11]
    obtain ⟨K, k1, k2, k3, k4, k5⟩ := ih (j + 1) (uI J 298 j (J 297 j))
    refine ⟨K, fun a ha => (k1 a ha).trans (uI_off _ _ _ ha), fun b hb => (k2 b (by omega)).trans (uI_ne _ _ _ (by omega)), fun b h1 h2 => ?_, k4, k5⟩
    by_cases e : b = j
    · subst e; rw [k2 b (by omega), uI_self]
    · rw [k3 b (by omega) (by omega), uI_off _ _ _ (by decide)]
theorem sp_2 {nd : Int32} {c : Nat} {z : Bool} : ∀ n j (J : Nat → Nat → Int32), (∀ a, a ≠ 297 → (i11_bitsUntilSent_107 nd n j c z J L) a = J a) ∧ (∀ b, (b < j ∨ j + n ≤ b) → (i11_bitsUntilSent_107 nd n j c z J L) 297 b = J 297 b) ∧ (∀ b, j ≤ b → b < j + n → (i11_bitsUntilSent_107 nd n j c z J L) 297 b = J 298 b) ∧ r11_bitsUntilSent_107 nd n j c z J L = (if z = true then nI c else (-5)) := by
  intro n
  induction n with
  | zero => intro j J; exact ⟨fun _ _ => rfl, fun _ _ => rfl, fun b h1 h2 => absurd h2 (by omega), rfl⟩
  | succ n ih =>
    intro j J
    simp only [i11_bitsUntilSent_107, r11_bitsUntilSent_107]
    obtain ⟨k1, k2, k3, k4⟩ := ih (j + 1) (uI J 297 j (J 298 j))
    refine ⟨fun a ha => (k1 a ha).trans (uI_off _ _ _ ha), fun b hb => (k2 b (by omega)).trans (uI_ne _ _ _ (by omega)), fun b h1 h2 => ?_, k4⟩
    by_cases e : b = j
    · subst e; rw [k2 b (by omega), uI_self]
    · rw [k3 b (by omega) (by omega), uI_off _ _ _ (by decide)]
/-- what the search leaves: only the row 297 may change, up to the end of it -/
def sT (K J : Nat → Nat → Int32) : Prop := (∀ a, a ≠ 297 → K a = J a) ∧ ∀ b, b < 1310 → K 297 b = J 298 b
theorem sT.tr {K J M : Nat → Nat → Int32} (h : sT K M) (e : ∀ a, a ≠ 297 → M a = J a) : sT K J := ⟨fun a ha => (h.1 a ha).trans (e a ha), fun b hb => (h.2 b hb).trans (by rw [e 298 (by decide)])⟩
theorem sp_3 {nd : Int32} {c : Nat} {z : Bool} : sT (i11_bitsUntilSent_107 nd 1310 0 c z J L) J := by
  obtain ⟨k1, k2, k3, -⟩ := sp_2 (nd := nd) (c := c) (z := z) (L := L) 1310 0 J
  exact ⟨k1, fun b hb => k3 b (by omega) (by omega)⟩
theorem bus_K {nd : Int32} {ni : Nat} (hn : ni < 4) : ∀ n c (t : Nat) (z : Int32) (C : Nat → Nat → Int32) (D : Nat → Nat → Int64) (J : Nat → Nat → Int32), t + n < 2 ^ 27 → BR t 72 C D J → J 297 (256 * ni + 14) = z → r10_bitsUntilSent_41 nd n (c + 1) ni z C D = r11_bitsUntilSent_50 nd n c ni z J L ∧ sT (i11_bitsUntilSent_50 nd n c ni z J L) J := by
  intro n
  induction n with
  | zero =>
    intro c t z C D J ht h hz
    simp only [r10_bitsUntilSent_41, r11_bitsUntilSent_50, i11_bitsUntilSent_50]
    refine ⟨?_, sp_3⟩
    rw [(sp_2 (nd := nd) (c := c) (L := L) 1310 0 J).2.2.2, hz, if_pos (Int32.le_refl z)]
    rfl
  | succ n ih =>
    intro c t z C D J ht h hz
    simp only [r10_bitsUntilSent_41, r11_bitsUntilSent_50, i11_bitsUntilSent_50]
    rw [if_pos hz, if_pos hz]
    have hb := BR.bit (L := L) (show t < 2 ^ 27 by omega) h
    have e : (i0_passBit 72 C D) (75 + 16 * ni + 1) 4 = (i11_bit J L) 297 (256 * ni + 14) := (hb.2.2.2.1 ni hn).1.2.2.2.2.2.1.2.2.2.2.2.1
    have e0 : C (75 + 16 * ni + 1) 4 = J 297 (256 * ni + 14) := (h.2.2.2.1 ni hn).1.2.2.2.2.2.1.2.2.2.2.2.1
    obtain ⟨s, s1, s2⟩ := (h.2.2.2.1 ni hn).1.2.2.2.2.2.1.2.2.2.2.2.2
    have up : (i0_passBit 72 C D) (75 + 16 * ni + 1) 4 = C (75 + 16 * ni + 1) 4 ∨ (i0_passBit 72 C D) (75 + 16 * ni + 1) 4 = C (75 + 16 * ni + 1) 4 + 1 := sent_up hn
    have rows : ∀ a, a ≠ 297 → (i11_bit J L) a = J a := fun a ha => bit_row ha h
    rw [e]
    rw [e, e0, hz] at up
    by_cases g : (i11_bit J L) 297 (256 * ni + 14) = z
    · rw [if_pos g]
      obtain ⟨k1, k2⟩ := ih (c + 1) (t + 1) z _ _ _ (by omega) hb g
      exact ⟨k1, k2.tr rows⟩
    · rw [if_neg g]
      have g2 : (i11_bit J L) 297 (256 * ni + 14) = z + 1 := up.resolve_left g
      have g3 : ¬ (i11_bit J L) 297 (256 * ni + 14) ≤ z := by
        rw [g2, ← hz, s2, nI_1]
        exact nI_ge (by omega) (by omega)
      have fin : ∀ m, r11_bitsUntilSent_50 nd m (c + 1) ni z (i11_bit J L) L = nI (c + 1) ∧ sT (i11_bitsUntilSent_50 nd m (c + 1) ni z (i11_bit J L) L) (i11_bit J L) := by
        intro m
        cases m with
        | zero =>
          simp only [r11_bitsUntilSent_50, i11_bitsUntilSent_50]
          rw [(sp_2 (nd := nd) (c := c + 1) (L := L) 1310 0 (i11_bit J L)).2.2.2, if_neg g3]
          exact ⟨rfl, sp_3⟩
        | succ m =>
          simp only [r11_bitsUntilSent_50, i11_bitsUntilSent_50]
          rw [if_neg g, if_neg g, (sp_2 (nd := nd) (c := c + 1) (L := L) 1310 0 (i11_bit J L)).2.2.2, if_neg g3]
          exact ⟨rfl, sp_3⟩
      obtain ⟨k1, k2⟩ := fin n
      exact ⟨k1.symm, k2.tr rows⟩
end BS
