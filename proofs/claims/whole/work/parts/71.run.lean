/-! bit times: run, settle -/
section RU
variable {t k l i : Nat} {C J C' : Nat → Nat → Int32} {D D' L : Nat → Nat → Int64} {x v : Int32}
theorem bit52_row {a : Nat} (ha : a ≠ 297) : ∀ n i (z y : Int32) (J : Nat → Nat → Int32), i + n = 4 → (∀ j, i ≤ j → j < 4 → aOK j J L) → (i11_bit_52 n i z y J L) a = J a := by
  intro n
  induction n with
  | zero =>
    intro i z y J _ _
    simp only [i11_bit_52]
    unfold i11_passes
    rw [ps_row ha, uI_off _ _ _ ha, uI_off _ _ _ ha]
  | succ n ih =>
    intro i z y J hi hA
    simp only [i11_bit_52]
    have of := oF.acts (x := z ^^^ ((y >>> ((nI i) &&& 31)) &&& 1)) (hA i (Nat.le_refl _) (by omega))
    rw [ih _ _ _ _ (by omega) (fun j h1 h2 => aOK_of h2 (show i < 4 by omega) (by omega) of (hA j (by omega) h2)), of.1 a ha]
theorem bit4_row {a : Nat} (ha : a ≠ 297) : ∀ n i (z : Int32) (J : Nat → Nat → Int32), i + n = 4 → (∀ j, j < 4 → aOK j J L) → (i11_bit_4 n i z J L) a = J a := by
  intro n
  induction n with
  | zero =>
    intro i z J _ hA
    simp only [i11_bit_4]
    exact bit52_row ha _ _ _ _ _ (by omega) (fun j _ hj => hA j hj)
  | succ n ih =>
    intro i z J hi hA
    simp only [i11_bit_4]
    rw [ih _ _ _ (by omega) (fun j hj => aOK_26 hj (show i < 4 by omega) (hA j hj)), uI_off _ _ _ ha]
theorem bit_row {B a : Nat} (ha : a ≠ 297) (h : BR t B C D J) : (i11_bit J L) a = J a := by
  unfold i11_bit
  exact bit4_row ha _ _ _ _ (by omega) (fun j hj => (h.2.2.2.1 j hj).aOK)
theorem ST.tr {t t' : Nat} {C1 J1 C2 J2 : Nat → Nat → Int32} {D1 D2 : Nat → Nat → Int64} (h : ST t C D J C1 D1 J1) (g : ST t' C1 D1 J1 C2 D2 J2) : ST t' C D J C2 D2 J2 := ⟨g.1, fun a q => (g.2.1 a q).trans (h.2.1 a q), fun a q => (g.2.2.1 a q).trans (h.2.2.1 a q), fun a q => (g.2.2.2 a q).trans (h.2.2.2 a q)⟩
theorem K_bit (ht : t < 2 ^ 27) (h : BR t 1 C D J) : ST (t + 1) C D J (i0_passBit 1 C D) (m0_passBit 1 C D) (i11_bit J L) := ⟨BR.bit ht h, fun a g => x0_passBit (by omega), fun a g => y0_passBit (by omega), fun a g => bit_row g h⟩
theorem sum_eq (h : BR t 1 C D J) : r0_countSent 1 C D = r11_sentByAll J L := by
  have q := fun i hi => (h.2.2.2.1 i hi).1.2.2.2.2.2.1.2.2.2.2.2.1
  have q0 : C (1 + 3 + 16 * 0 + 1) 4 = J 297 14 := q 0 (by omega)
  have q1 : C (1 + 3 + 16 * (0 + 1) + 1) 4 = J 297 270 := q 1 (by omega)
  have q2 : C (1 + 3 + 16 * (0 + 1 + 1) + 1) 4 = J 297 526 := q 2 (by omega)
  have q3 : C (1 + 3 + 16 * (0 + 1 + 1 + 1) + 1) 4 = J 297 782 := q 3 (by omega)
  unfold r0_countSent r11_sentByAll
  simp only [r0_countSent_4]
  rw [q0, q1, q2, q3, Int32.zero_add]
theorem run_K : ∀ n q bn (z : Int32) (t : Nat) (C : Nat → Nat → Int32) (D : Nat → Nat → Int64) (J : Nat → Nat → Int32), t + n < 2 ^ 27 → BR t 1 C D J → ST (t + n) C D J (i10_run_24 x n q bn z C D) (m10_run_24 x n q bn z C D) (i11_run_21 x n q bn z J L) ∧ r10_run_24 x n q bn z C D = r11_run_21 x n q bn z J L := by
  intro n
  induction n with
  | zero =>
    intro q bn z t C D J _ h
    simp only [i10_run_24, m10_run_24, i11_run_21, r10_run_24, r11_run_21]
    exact ⟨ST.rf h, by rw [sum_eq (L := L) h]⟩
  | succ n ih =>
    intro q bn z t C D J ht h
    simp only [i10_run_24, m10_run_24, i11_run_21, r10_run_24, r11_run_21]
    have k1 := K_bit (L := L) (show t < 2 ^ 27 by omega) h
    obtain ⟨k2, k3⟩ := ih (q + 1) bn z (t + 1) _ _ _ (by omega) k1.1
    rw [show t + (n + 1) = t + 1 + n by omega]
    exact ⟨k1.tr k2, k3⟩
theorem K_run (ht : t < 2 ^ 26) (h : BR t 1 C D J) : ∃ t', t' ≤ t + 1000 ∧ ST t' C D J (i10_run x C D) (m10_run x C D) (i11_run x J L) ∧ r10_run x C D = r11_run x J L := by
  unfold i10_run m10_run i11_run r10_run r11_run
  by_cases g : r10_isWithin x 1 200 = true
  · have g' : r11_in x 1 200 = true := g
    obtain ⟨n, n1, n2, rfl⟩ := within_nat (a := 1) (b := 200) (by decide) (by decide) g
    rw [if_pos g, if_pos g, if_pos g, if_pos g', if_pos g', nI_clamp (by omega), sum_eq (L := L) h]
    obtain ⟨k1, k2⟩ := run_K (L := L) (x := nI n) n 0 n (r11_sentByAll J L) t C D J (by omega) h
    exact ⟨t + n, by omega, k1, k2⟩
  · have g' : ¬ r11_in x 1 200 = true := g
    rw [if_neg g, if_neg g, if_neg g, if_neg g', if_neg g']
    exact ⟨t, by omega, ST.rf h, rfl⟩
theorem stl_f : ∀ n i, r11_isSettled_4 n i false J L = false := by
  intro n
  induction n with
  | zero => intro i; rfl
  | succ n ih => intro i; simp only [r11_isSettled_4]; exact ih _
theorem stl_eq (h : BR t 1 C D J) : r0_isSettled 1 C D = r11_isSettled J L := by
  unfold r0_isSettled r11_isSettled
  have key : ∀ n i, i + n = 4 → r0_isSettled_2 1 n i C D = r11_isSettled_4 n i true J L := by
    intro n
    induction n with
    | zero => intro i _; rfl
    | succ n ih =>
      intro i hi
      have hN := h.2.2.2.1 i (by omega)
      simp only [r0_isSettled_2, r11_isSettled_4]
      obtain ⟨w, w1, w2, w3, -⟩ := hN.1.2.2.2.2.2.2.1
      have w2' : C (1 + 3 + 16 * i + 3) 3 = nI w := w2
      have tk := tk_eq (l := 1 + 1) hN
      have le0 : nI w ≤ 0 ↔ nI w = 0 := (by decide : ∀ w, w ≤ 4 → (nI w ≤ 0 ↔ nI w = 0)) w w1
      rw [w2', w3, hN.2.1]
      first | rw [if_pos rfl] | rw [if_pos trivial]
      by_cases g : (J 297 (256 * i) = 0) ∨ ((J 297 (256 * i) = 1) ∨ ((J 297 (256 * i) = 3) ∧ (nI w = 0)))
      · rw [if_pos g, if_pos]
        · exact ih _ (by omega)
        · rcases g with g | g | g
          · exact Or.inl (fun z => tk.mp z (Or.inl g))
          · exact Or.inl (fun z => tk.mp z (Or.inr g))
          · exact Or.inr ⟨g.1, le0.mpr g.2⟩
      · rw [if_neg g, if_neg, stl_f]
        rintro (z | z)
        · exact z (tk.mpr (fun y => g (y.elim Or.inl (fun y => Or.inr (Or.inl y)))))
        · exact g (Or.inr (Or.inr ⟨z.1, le0.mp z.2⟩))
  exact key 4 0 (by omega)
theorem set_K : ∀ n q (t : Nat) (C : Nat → Nat → Int32) (D : Nat → Nat → Int64) (J : Nat → Nat → Int32), t + n < 2 ^ 27 → q + n = 1000 → BR t 1 C D J → ∃ t', t' ≤ t + n ∧ ST t' C D J (i10_settle_2 n q C D) (m10_settle_2 n q C D) (i11_settle_2 n q J L) ∧ r10_settle_2 n q C D = r11_settle_2 n q J L := by
  intro n
  induction n with
  | zero =>
    intro q t C D J _ hq h
    simp only [i10_settle_2, m10_settle_2, i11_settle_2, r10_settle_2, r11_settle_2]
    rw [stl_eq (L := L) h, show q = 1000 by omega]
    exact ⟨t, by omega, ST.rf h, rfl⟩
  | succ n ih =>
    intro q t C D J ht hq h
    simp only [i10_settle_2, m10_settle_2, i11_settle_2, r10_settle_2, r11_settle_2]
    rw [stl_eq (L := L) h]
    by_cases g : r11_isSettled J L = true
    · simp only [if_pos g]
      exact ⟨t, by omega, ST.rf h, trivial⟩
    · simp only [if_neg g]
      have k1 := K_bit (L := L) (show t < 2 ^ 27 by omega) h
      obtain ⟨t', k0, k2, k3⟩ := ih (q + 1) (t + 1) _ _ _ (by omega) (by omega) k1.1
      exact ⟨t', by omega, k1.tr k2, k3⟩
theorem K_settle (ht : t < 2 ^ 26) (h : BR t 1 C D J) : ∃ t', t' ≤ t + 1000 ∧ ST t' C D J (i10_settle C D) (m10_settle C D) (i11_settle J L) ∧ r10_settle C D = r11_settle J L := by
  unfold i10_settle m10_settle i11_settle r10_settle r11_settle
  exact set_K 1000 0 t C D J (by omega) (by omega) h
end RU
