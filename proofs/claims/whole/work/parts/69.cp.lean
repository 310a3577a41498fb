/-! a bus is copied -/
section CP
variable {t k k2 i : Nat} {C J C' : Nat → Nat → Int32} {D D' L : Nat → Nat → Int64}
theorem TR.mv (h : TR t k2 i C J) (h1 : ∀ b, 1 ≤ b → b < 6 → C' (k + 1) b = C (k2 + 1) b) (h2 : ∀ b, 1 ≤ b → b < 6 → C' (k + 2) b = C (k2 + 2) b) : TR t k i C' J := by
  obtain ⟨a1, ⟨m, m1, m2, m3⟩, a2, a3, a4, a5, s, s1, s2⟩ := h
  exact ⟨fun kd g1 g2 => (h2 kd g1 (by omega)).trans (a1 kd g1 g2), ⟨m, m1, m2, (h1 1 (by omega) (by omega)).trans m3⟩, (h1 2 (by omega) (by omega)).trans a2, (h1 3 (by omega) (by omega)).trans a3, (h1 5 (by omega) (by omega)).trans a4, (h1 4 (by omega) (by omega)).trans a5, s, s1, s2⟩
def flS (k k2 : Nat) (C C' : Nat → Nat → Int32) : Prop := C' k 3 = C k2 3 ∧ ∀ w, w ≤ 8 → C k2 3 = nI w → ∀ j, j < w → C' (k + 1) j = C (k2 + 1) j ∧ C' (k + 2) j = C (k2 + 2) j ∧ C' (k + 3) j = C (k2 + 3) j
theorem WR.mv (h : WR k2 i C J) (hf : flS (k + 3) (k2 + 3) C C') : WR k i C' J := by
  obtain ⟨w, a1, a2, a3, a4, a5, a6⟩ := h
  have q := hf.2 w (by omega) a2
  have q4 : ∀ j, j < w → C' (k + 4) j = C (k2 + 4) j := fun j hj => (q j hj).1
  refine ⟨w, a1, hf.1.trans a2, a3, fun j hj => ?_, fun j hj => ?_, a6⟩
  · obtain ⟨idn, rm, ln, b1, b2, b3, b4, b5, b6, b7, b8, b9, b10⟩ := a4 j hj
    exact ⟨idn, rm, ln, b1, b2, b3, b4, b5, b6, (q4 j hj).trans b7, (q j hj).2.1.trans b8, (q j hj).2.2.trans b9, b10⟩
  · rw [q4 j (by omega), q4 (j + 1) hj]; exact a5 j hj
theorem GR.mv (h : GR k2 i C J) (hf : flS (k + 7) (k2 + 7) C C') : GR k i C' J := by
  obtain ⟨r, a1, a2, a3, a4⟩ := h
  have q := hf.2 r (by omega) a2
  exact ⟨r, a1, hf.1.trans a2, a3, fun j hj => ⟨(q j hj).1.trans (a4 j hj).1, (q j hj).2.1.trans (a4 j hj).2.1, (q j hj).2.2.trans (a4 j hj).2.2⟩⟩
theorem AR.mv (h : AR k2 i C J) (hf : flS (k + 11) (k2 + 11) C C') : AR k i C' J := by
  obtain ⟨a, a1, a2, a3, a4, a5⟩ := h
  have q := hf.2 a (by omega) a2
  have e : cA k C' a = cA k2 C a := by
    unfold cA
    apply List.map_congr_left
    intro j hj
    rw [List.mem_range] at hj
    exact _root_.congr (congrArg Prod.mk (q j hj).1) (_root_.congr (congrArg Prod.mk (q j hj).2.1) (q j hj).2.2)
  exact ⟨a, a1, hf.1.trans a2, a3, by rw [e]; exact a4, a5⟩
theorem NR.mv (h : NR t k2 i C D J) (h0 : ∀ b, 6 ≤ b → b ≤ 17 → C' k b = C k2 b) (h1 : ∀ b, 1 ≤ b → b < 6 → C' (k + 1) b = C (k2 + 1) b) (h2 : ∀ b, 1 ≤ b → b < 6 → C' (k + 2) b = C (k2 + 2) b) (f3 : flS (k + 3) (k2 + 3) C C') (f7 : flS (k + 7) (k2 + 7) C C') (f11 : flS (k + 11) (k2 + 11) C C') (h15 : ∀ b, b < 9 → b ≠ 2 → C' (k + 15) b = C (k2 + 15) b) (d15 : D' (k + 15) 2 = D (k2 + 15) 2) (d18 : D' k 18 = D k2 18) : NR t k i C' D' J := by
  obtain ⟨⟨a1, a2, a3, a4, a5, a6, a7, a8, a9⟩, p1, p2, p3, p4, p5, p6, p7, p8⟩ := h
  have z : ∀ b, 6 ≤ b ∧ b ≤ 17 → C' k b = C k2 b := fun b hb => h0 b hb.1 hb.2
  refine ⟨⟨?_, ?_, ?_, ?_, ?_, a6.mv h1 h2, a7.mv f3, a8.mv f7, a9.mv f11⟩, ?_, ?_, p3, ?_, ?_, ?_, ?_, ?_⟩
  · rw [z 9 (by omega)]; exact a1
  · rw [z 10 (by omega)]; exact a2
  · rw [z 11 (by omega)]; exact a3
  · rw [z 6 (by omega), z 7 (by omega)]; exact a4
  · rw [z 14 (by omega), z 15 (by omega)]; exact a5
  · rw [z 8 (by omega)]; exact p1
  · rw [z 12 (by omega)]; exact p2
  · rw [z 13 (by omega)]; exact p4
  · rw [z 15 (by omega)]; exact p5
  · rw [z 14 (by omega)]; exact p6
  · rcases p7 with ⟨q1, q2⟩ | ⟨s, w, s1, s2, s3, s4, s5⟩
    · exact Or.inl ⟨by rw [z 17 (by omega)]; exact q1, q2⟩
    · exact Or.inr ⟨s, w, s1, s2, f3.1.trans s3, by rw [z 17 (by omega)]; exact s4, s5⟩
  · intro g
    obtain ⟨b, e, T, la, bf, c1, c2, c3, c4, c5, c6, c7, c8⟩ := p8 g
    have y : ∀ b, b < 9 ∧ b ≠ 2 → C' (k + 15) b = C (k2 + 15) b := fun b hb => h15 b hb.1 hb.2
    refine ⟨b, e, T, la, bf, c1, c2, ?_, ?_, ?_, ?_, ?_, fun g1 => ?_⟩
    · rw [y 0 (by omega)]; exact c3
    · rw [y 6 (by omega)]; exact c4
    · rw [y 7 (by omega)]; exact c5
    · rw [y 1 (by omega), d15, y 3 (by omega), y 4 (by omega), y 5 (by omega)]; exact c6
    · rw [y 8 (by omega)]; exact c7
    · obtain ⟨x1, idn, rm, ln, d, x2, x3, x4, x5, x6, x7⟩ := c8 g1
      exact ⟨by rw [z 17 (by omega)]; exact x1, idn, rm, ln, d, x2, x3, x4, x5, d18.trans x6, x7⟩
/-! lists -/
theorem fc18 {c c2 : Nat} (hap : k + 4 ≤ k2 ∨ k2 + 4 ≤ k) : ∀ n q (C : Nat → Nat → Int32) (o j : Nat), 1 ≤ o → o ≤ 3 → (i3_copyFrom_18 k c k2 c2 n q C D) (k + o) j = if q ≤ j ∧ j < q + n then C (k2 + o) j else C (k + o) j := by
  intro n
  induction n with
  | zero => intro q C o j _ _; rw [if_neg (by omega)]; rfl
  | succ n ih =>
    intro q C o j h1 h2
    simp only [i3_copyFrom_18]
    rw [ih _ _ o j h1 h2, uI_off _ _ _ (show k2 + o ≠ k + 3 by omega), uI_off _ _ _ (show k2 + o ≠ k + 2 by omega), uI_off _ _ _ (show k2 + o ≠ k + 1 by omega)]
    by_cases g : q + 1 ≤ j ∧ j < q + 1 + n
    · rw [if_pos g, if_pos (by omega)]
    · rw [if_neg g]
      have e2 : (uI C (k + 1) q (C (k2 + 1) q)) (k2 + 2) = C (k2 + 2) := uI_off _ _ _ (by omega)
      have e3 : (uI (uI C (k + 1) q (C (k2 + 1) q)) (k + 2) q ((uI C (k + 1) q (C (k2 + 1) q)) (k2 + 2) q)) (k2 + 3) = C (k2 + 3) := by rw [uI_off _ _ _ (by omega), uI_off _ _ _ (by omega)]
      have key : (uI (uI (uI C (k + 1) q (C (k2 + 1) q)) (k + 2) q (C (k2 + 2) q)) (k + 3) q (C (k2 + 3) q)) (k + o) j = if j = q then C (k2 + o) q else C (k + o) j := by
        rw [uI_eq, uI_eq, uI_eq]
        rcases (show o = 1 ∨ o = 2 ∨ o = 3 by omega) with rfl | rfl | rfl
        · rw [if_neg (by omega), if_neg (by omega)]
          by_cases e : j = q
          · rw [if_pos ⟨rfl, e⟩, if_pos e]
          · rw [if_neg (fun z => e z.2), if_neg e]
        · rw [if_neg (by omega)]
          by_cases e : j = q
          · rw [if_pos ⟨rfl, e⟩, if_pos e]
          · rw [if_neg (fun z => e z.2), if_neg e, if_neg (by omega)]
        · by_cases e : j = q
          · rw [if_pos ⟨rfl, e⟩, if_pos e]
          · rw [if_neg (fun z => e z.2), if_neg e, if_neg (by omega), if_neg (by omega)]
      first
        | rw [key]
        | rw [e2] at *
      by_cases e : j = q
      · rw [if_pos e, if_pos (by omega), e]
      · rw [if_neg e, if_neg (by omega)]
theorem fc18_s {c c2 : Nat} : ∀ n q (C : Nat → Nat → Int32), (i3_copyFrom_18 k c k2 c2 n q C D) k = C k := by
  intro n
  induction n with
  | zero => intro q C; rfl
  | succ n ih => intro q C; simp only [i3_copyFrom_18]; rw [ih, uI_off _ _ _ (by omega), uI_off _ _ _ (by omega), uI_off _ _ _ (by omega)]
theorem fc_cp {c c2 s : Nat} (hap : k + 4 ≤ k2 ∨ k2 + 4 ≤ k) (hs : C k2 3 = nI s) (hsc : s ≤ c) (hc : c ≤ 8) : flS k k2 C (i3_copyFrom k c k2 c2 C D) := by
  unfold i3_copyFrom
  rw [hs, nI_clamp (by omega), if_neg (nI_nlt hsc (by omega))]
  refine ⟨?_, fun w hw8 hw j hj => ?_⟩
  · rw [fc18_s, uI_self, hs]
  · have e : w = s := (nI_eq (by omega) (by omega)).mp (hw.symm.trans hs)
    subst e
    rw [fc18 hap _ _ _ 1 j (by omega) (by omega), fc18 hap _ _ _ 2 j (by omega) (by omega), fc18 hap _ _ _ 3 j (by omega) (by omega), if_pos (by omega), if_pos (by omega), if_pos (by omega), uI_off _ _ _ (by omega), uI_off _ _ _ (by omega), uI_off _ _ _ (by omega)]
    exact ⟨rfl, rfl, rfl⟩
theorem flS.to {E F : Nat → Nat → Int32} {k k2 : Nat} (h : flS k k2 C C') (hE : ∀ o, o ≤ 3 → E (k2 + o) = C (k2 + o)) (hF : ∀ o, o ≤ 3 → F (k + o) = C' (k + o)) : flS k k2 E F := by
  have e0 : E k2 = C k2 := hE 0 (by omega)
  have f0 : F k = C' k := hF 0 (by omega)
  refine ⟨by rw [e0, f0]; exact h.1, fun w hw8 hw j hj => ?_⟩
  rw [hE 1 (by omega), hE 2 (by omega), hE 3 (by omega), hF 1 (by omega), hF 2 (by omega), hF 3 (by omega)]
  exact h.2 w hw8 (by rw [← e0]; exact hw) j hj
end CP
