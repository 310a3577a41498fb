/-! everything beside everything -/
section RE
variable {b b' t : Nat} {C J C' J' : Nat → Nat → Int32} {D D' L : Nat → Nat → Int64} {x nd : Int32}
def kR (s : Nat) (J : Nat → Nat → Int32) : Nat → Nat → Int32 := fun _ y => J 299 (y + 1310 * s)
theorem kR_eq {s a y : Nat} : kR s J a y = J 299 (y + 1310 * s) := rfl
def SL (b : Nat) (C : Nat → Nat → Int32) (D : Nat → Nat → Int64) (J : Nat → Nat → Int32) : Prop := ∀ s, s < 2 → C 286 s = J 300 s ∧ bV (144 + 71 * s) C ∧ (∀ i, i < 4 → nB (144 + 71 * s + 3 + 16 * i) C) ∧ (¬ C 286 s = 0 → ∃ t, t ≤ b ∧ BR t (144 + 71 * s) C D (kR s J))
def MR (C J : Nat → Nat → Int32) : Prop := ∃ m, m ≤ 8 ∧ C 288 4 = nI m ∧ J 296 7 = nI m ∧ ∀ j, j < m → ∃ idn ln pd jt, (idn ≤ 2047 ∧ ln ≤ 4 ∧ 1 ≤ pd ∧ pd ≤ 5000 ∧ jt ≤ 500) ∧ (J 302 (4 * j) = nI idn ∧ J 302 (4 * j + 1) = nI ln ∧ J 302 (4 * j + 2) = nI pd ∧ J 302 (4 * j + 3) = nI jt) ∧ C 289 j = nI idn ∧ C 290 j = nI (wN ln) ∧ C 291 j = nI pd ∧ C 292 j = nI jt
def TX (C J : Nat → Nat → Int32) : Prop := ∃ n, n ≤ 120 ∧ C 293 2 = nI n ∧ J 296 5 = nI n ∧ ∀ j, j < n → C 295 j = J 301 j ∧ ∃ c, c ≤ 127 ∧ J 301 j = nI c
def REL (b : Nat) (C : Nat → Nat → Int32) (D : Nat → Nat → Int64) (J : Nat → Nat → Int32) : Prop := (∃ t, t ≤ b ∧ BR t 1 C D J) ∧ SL b C D J ∧ MR C J ∧ TX C J
theorem BR.rows {B : Nat} (h : BR t B C D J) (e : ∀ a, B ≤ a → a ≤ B + 70 → C' a = C a ∧ D' a = D a) : BR t B C' D' J := by
  obtain ⟨h4, h1, hL, hN, hD, hV⟩ := h
  refine ⟨by rw [(e B (by omega) (by omega)).1]; exact h4, h1, hL.congr (e _ (by omega) (by omega)).1 (fun _ _ _ => rfl), fun j hj => (hN j hj).congr (fun a b _ _ _ => by rw [(e a (by omega) (by omega)).1]) (by rw [(e _ (by omega) (by omega)).2]) (by rw [(e _ (by omega) (by omega)).2]) (fun _ _ _ _ _ => rfl), hD.congr (by rw [(e _ (by omega) (by omega)).1]) (fun _ _ => by rw [(e _ (by omega) (by omega)).1]) (fun _ _ => by rw [(e _ (by omega) (by omega)).1]) (fun _ _ _ => rfl), fun j hj => by rw [(e _ (by omega) (by omega)).1]; exact hV j hj⟩
theorem BR.row2 {B : Nat} (h : BR t B C D J) (e : ∀ y, y < 1310 → J' 297 y = J 297 y) : BR t B C D J' := by
  obtain ⟨h4, h1, hL, hN, hD, hV⟩ := h
  refine ⟨h4, by rw [e _ (by omega)]; exact h1, hL.congr rfl (fun x _ _ => e _ (by omega)), fun i hi => (hN i hi).congr (fun _ _ _ _ _ => rfl) rfl rfl (fun s x _ _ _ => e _ (by omega)), hD.congr rfl (fun _ _ => rfl) (fun _ _ => rfl) (fun x _ _ => e _ (by omega)), fun j hj => by rw [e _ (by omega)]; exact hV j hj⟩
theorem bV.rows {B : Nat} (h : bV B C) (e : ∀ a, B ≤ a → a ≤ B + 70 → C' a = C a) : bV B C' := ⟨fun i hi => nV.of1 (e _ (by omega) (by omega)) (e _ (by omega) (by omega)) (e _ (by omega) (by omega)) (h.1 i hi), by rw [e _ (by omega) (by omega)]; exact h.2⟩
theorem BR.bV {B : Nat} (h : BR t B C D J) : bV B C := by
  refine ⟨fun i hi => ?_, ?_⟩
  · obtain ⟨w, w1, w2, -⟩ := (h.2.2.2.1 i hi).1.2.2.2.2.2.2.1
    obtain ⟨r, r1, r2, -⟩ := (h.2.2.2.1 i hi).1.2.2.2.2.2.2.2.1
    obtain ⟨a, a1, a2, -⟩ := (h.2.2.2.1 i hi).1.2.2.2.2.2.2.2.2
    exact ⟨⟨w, w1, w2⟩, ⟨r, r1, r2⟩, a, a1, a2⟩
  · obtain ⟨d, d1, d2, -⟩ := h.2.2.2.2.1
    exact ⟨d, d1, d2⟩
theorem BR.nB {B : Nat} (h : BR t B C D J) : ∀ i, i < 4 → nB (B + 3 + 16 * i) C := fun i hi => by
  obtain ⟨e1, e2⟩ := (h.2.2.2.1 i hi).1.1
  exact ⟨by rw [e1]; exact e2, (h.2.2.2.1 i hi).1.2.2.2.2.1⟩
theorem SL.of (h : SL b C D J) (hb : b ≤ b') (hC : ∀ a, 144 ≤ a → a ≤ 286 → C' a = C a) (hD : ∀ a, 144 ≤ a → a ≤ 285 → D' a = D a) (h9 : J' 299 = J 299) (h0 : J' 300 = J 300) : SL b' C' D' J' := fun s hs => by
  obtain ⟨a1, a2, a3, a4⟩ := h s hs
  refine ⟨by rw [hC _ (by omega) (by omega), h0]; exact a1, a2.rows (fun a g1 g2 => hC a (by omega) (by omega)), fun i hi => nB.of (hC _ (by omega) (by omega)) (a3 i hi), fun g => ?_⟩
  rw [hC _ (by omega) (by omega)] at g
  obtain ⟨t, t1, t2⟩ := a4 g
  refine ⟨t, by omega, (t2.rows (fun a g1 g2 => ⟨hC a (by omega) (by omega), hD a (by omega) (by omega)⟩)).row2 (fun y _ => ?_)⟩
  show J' 299 _ = J 299 _
  rw [h9]
theorem MR.of (h : MR C J) (hC : ∀ a, 288 ≤ a → a ≤ 292 → C' a = C a) (h7 : J' 296 7 = J 296 7) (h2 : J' 302 = J 302) : MR C' J' := by
  obtain ⟨m, m1, m2, m3, m4⟩ := h
  refine ⟨m, m1, by rw [hC _ (by omega) (by omega)]; exact m2, h7.trans m3, fun j hj => ?_⟩
  rw [hC 289 (by omega) (by omega), hC 290 (by omega) (by omega), hC 291 (by omega) (by omega), hC 292 (by omega) (by omega), h2]
  exact m4 j hj
theorem TX.of (h : TX C J) (hC : C' 293 2 = C 293 2) (hC2 : C' 295 = C 295) (h5 : J' 296 5 = J 296 5) (h1 : J' 301 = J 301) : TX C' J' := by
  obtain ⟨m, m1, m2, m3, m4⟩ := h
  exact ⟨m, m1, hC.trans m2, h5.trans m3, fun j hj => by rw [hC2, h1]; exact m4 j hj⟩
theorem REL.of (h : REL b C D J) (hb : b ≤ b') (hB : ∃ t, t ≤ b' ∧ BR t 1 C' D' J') (hC : ∀ a, (144 ≤ a ∧ a ≤ 286) ∨ (288 ≤ a ∧ a ≤ 293) ∨ a = 295 → C' a = C a) (hD : ∀ a, 144 ≤ a → a ≤ 285 → D' a = D a) (hJ : ∀ a, 299 ≤ a → a ≤ 302 → J' a = J a) (h5 : J' 296 5 = J 296 5) (h7 : J' 296 7 = J 296 7) : REL b' C' D' J' :=
  ⟨hB, h.2.1.of hb (fun a g1 g2 => hC a (by omega)) hD (hJ _ (by omega) (by omega)) (hJ _ (by omega) (by omega)), h.2.2.1.of (fun a g1 g2 => hC a (by omega)) h7 (hJ _ (by omega) (by omega)), h.2.2.2.of (by rw [hC _ (by omega)]) (hC _ (by omega)) h5 (hJ _ (by omega) (by omega))⟩
theorem REL.st (h : REL b C D J) (hb : b ≤ b') (ht : t ≤ b') (s : ST t C D J C' D' J') : REL b' C' D' J' := h.of hb ⟨t, ht, s.1⟩ (fun a g => s.2.1 a (by omega)) (fun a g1 g2 => s.2.2.1 a (by omega)) (fun a g1 g2 => s.2.2.2 a (by omega)) (by rw [s.2.2.2 _ (by decide)]) (by rw [s.2.2.2 _ (by decide)])
/-! the prediction -/
theorem bus_rows {ni : Nat} : ∀ n c (z : Int32) (C : Nat → Nat → Int32) (D : Nat → Nat → Int64) a, a < 72 ∨ 143 ≤ a → (i10_bitsUntilSent_41 nd n c ni z C D) a = C a ∧ (m10_bitsUntilSent_41 nd n c ni z C D) a = D a := by
  intro n
  induction n with
  | zero => intro c z C D a _; exact ⟨rfl, rfl⟩
  | succ n ih =>
    intro c z C D a ha
    simp only [i10_bitsUntilSent_41, m10_bitsUntilSent_41]
    have e1 : (i0_passBit 72 C D) a = C a := x0_passBit (by omega)
    have e2 : (m0_passBit 72 C D) a = D a := y0_passBit (by omega)
    split
    · rw [(ih _ _ _ _ a ha).1, (ih _ _ _ _ a ha).2]; exact ⟨e1, e2⟩
    · exact ⟨e1, e2⟩
theorem Z_bitsUntilSent (hb : b < 2 ^ 26) (h : REL b C D J) : r10_bitsUntilSent nd C D = r11_bitsUntilSent nd J L ∧ REL b (i10_bitsUntilSent nd C D) (m10_bitsUntilSent nd C D) (i11_bitsUntilSent nd J L) := by
  obtain ⟨t, ht, hB⟩ := h.1
  unfold r10_bitsUntilSent r11_bitsUntilSent i10_bitsUntilSent m10_bitsUntilSent i11_bitsUntilSent
  by_cases hn : r10_isNode nd = true
  · have hn' : r11_isNode nd = true := hn
    obtain ⟨i, hi, e, -⟩ := hB.n hn
    rw [if_pos hn, if_pos hn', if_pos hn, if_pos hn, if_pos hn', e]
    have hc := BR.copy (B := 72) (B2 := 1) (by omega) hB
    obtain ⟨K, k1, k2, k3, k4, k5⟩ := sp_1 (nd := nd) (ni := i) (L := L) 1310 0 J
    have kr : K 297 = J 297 := k1 297 (by decide)
    have hK : BR t 72 (i0_copyFrom 72 1 C D) (m0_copyFrom 72 1 C D) K := hc.row kr
    have z0 : (i0_copyFrom 72 1 C D) (75 + 16 * i + 1) 4 = K 297 (256 * i + 14) := (hK.2.2.2.1 i hi).1.2.2.2.2.2.1.2.2.2.2.2.1
    rw [k4, k5, z0]
    obtain ⟨q1, q2⟩ := bus_K (nd := nd) (L := L) hi 1000 0 t (K 297 (256 * i + 14)) _ _ _ (by omega) hK rfl
    refine ⟨q1, h.of (Nat.le_refl _) ⟨t, ht, ?_⟩ (fun a g => ?_) (fun a g1 g2 => ?_) (fun a g1 g2 => ?_) ?_ ?_⟩
    · refine (hB.rows (fun a g1 g2 => ?_)).row2 (fun y hy => ?_)
      · obtain ⟨r1, r2⟩ := bus_rows (nd := nd) (ni := i) 1000 1 (K 297 (256 * i + 14)) (i0_copyFrom 72 1 C D) (m0_copyFrom 72 1 C D) a (by omega)
        rw [r1, r2]; exact ⟨x0_copyFrom (by omega), y0_copyFrom (by omega)⟩
      · rw [q2.2 y hy, k3 y (by omega) (by omega)]
    · rw [(bus_rows (nd := nd) (ni := i) 1000 1 (K 297 (256 * i + 14)) (i0_copyFrom 72 1 C D) (m0_copyFrom 72 1 C D) a (by omega)).1]; exact x0_copyFrom (by omega)
    · rw [(bus_rows (nd := nd) (ni := i) 1000 1 (K 297 (256 * i + 14)) (i0_copyFrom 72 1 C D) (m0_copyFrom 72 1 C D) a (by omega)).2]; exact y0_copyFrom (by omega)
    · rw [q2.1 a (by omega), k1 a (by omega)]
    · rw [q2.1 296 (by decide), k1 296 (by decide)]
    · rw [q2.1 296 (by decide), k1 296 (by decide)]
  · have hn' : ¬ r11_isNode nd = true := hn
    rw [if_neg hn, if_neg hn', if_neg hn, if_neg hn, if_neg hn']
    exact ⟨rfl, h⟩
/-! slots -/
theorem sv_1 {si : Nat} : ∀ n j (J : Nat → Nat → Int32), (∀ a, a ≠ 299 → a ≠ 300 → (i11_save_14 x n j si J L) a = J a) ∧ (∀ y, y ≠ si → (i11_save_14 x n j si J L) 300 y = J 300 y) ∧ (i11_save_14 x n j si J L) 300 si = 1 ∧ (∀ y, (y < j + 1310 * si ∨ j + n + 1310 * si ≤ y) → (i11_save_14 x n j si J L) 299 y = J 299 y) ∧ (∀ y, j ≤ y → y < j + n → (i11_save_14 x n j si J L) 299 (y + 1310 * si) = J 297 y) ∧ r11_save_14 x n j si J L = J 297 1024 := by
  intro n
  induction n with
  | zero =>
    intro j J
    simp only [i11_save_14, r11_save_14]
    exact ⟨fun a _ h => uI_off _ _ _ h, fun y h => uI_ne _ _ _ h, uI_self _ _ _ _, fun y _ => by rw [uI_off _ _ _ (by decide)], fun y h1 h2 => absurd h2 (by omega), trivial⟩
  | succ n ih =>
    intro j J
    simp only [i11_save_14, r11_save_14]
    obtain ⟨k1, k2, k3, k4, k5, k6⟩ := ih (j + 1) (uI J 299 (j + 1310 * si) (J 297 j))
    refine ⟨fun a h1 h2 => (k1 a h1 h2).trans (uI_off _ _ _ h1), fun y h => (k2 y h).trans (by rw [uI_off _ _ _ (by decide)]), k3, fun y hy => (k4 y (by omega)).trans (uI_ne _ _ _ (by omega)), fun y h1 h2 => ?_, k6.trans (by rw [uI_off _ _ _ (by decide)])⟩
    by_cases e : y = j
    · subst e; rw [k4 _ (by omega), uI_self]
    · rw [k5 y (by omega) (by omega), uI_off _ _ _ (by decide)]
theorem Z_save (h : REL b C D J) : r10_save x C D = r11_save x J L ∧ REL b (i10_save x C D) (m10_save x C D) (i11_save x J L) := by
  obtain ⟨t, ht, hB⟩ := h.1
  unfold r10_save r11_save i10_save m10_save i11_save
  by_cases g : r10_isSlot x = true
  · have g' : r11_in x 0 1 = true := g
    obtain ⟨s, s1, -, rfl⟩ := within_nat (a := 0) (b := 1) (by decide) (by decide) g
    rw [if_pos g, if_pos g', if_pos g, if_pos g, if_pos g', nI_clamp (by omega)]
    obtain ⟨k1, k2, k3, k4, k5, k6⟩ := sv_1 (x := nI s) (L := L) (si := s) 1310 0 J
    have hc := BR.copy (B := 144 + 71 * s) (B2 := 1) (by omega) hB
    have o : ∀ a, a < 144 + 71 * s ∨ 144 + 71 * s + 71 ≤ a → a ≠ 286 → (uI (i0_copyFrom (144 + 71 * s) 1 C D) 286 s 1) a = C a := fun a ha h2 => by rw [uI_off _ _ _ h2]; exact x0_copyFrom ha
    have oD : ∀ a, a < 144 + 71 * s ∨ 144 + 71 * s + 71 ≤ a → (m0_copyFrom (144 + 71 * s) 1 C D) a = D a := fun a ha => y0_copyFrom ha
    have hcB : BR t (144 + 71 * s) (uI (i0_copyFrom (144 + 71 * s) 1 C D) 286 s 1) (m0_copyFrom (144 + 71 * s) 1 C D) (kR s (i11_save_14 (nI s) 1310 0 s J L)) := (hc.rows (fun a g1 g2 => ⟨uI_off _ _ _ (by omega), rfl⟩)).row2 (fun y hy => by rw [kR_eq]; exact k5 y (by omega) (by omega))
    refine ⟨?_, ⟨t, ht, (hB.rows (fun a g1 g2 => ⟨o a (by omega) (by omega), oD a (by omega)⟩)).row2 (fun y hy => by rw [k1 297 (by decide) (by decide)])⟩, fun q hq => ?_, h.2.2.1.of (fun a g1 g2 => o a (by omega) (by omega)) (by rw [k1 296 (by decide) (by decide)]) (k1 302 (by decide) (by decide)), h.2.2.2.of (by rw [o 293 (by omega) (by omega)]) (o 295 (by omega) (by omega)) (by rw [k1 296 (by decide) (by decide)]) (k1 301 (by decide) (by decide))⟩
    · rw [k6]; exact hB.1.trans hB.2.1.symm
    · by_cases e : q = s
      · subst e
        refine ⟨by rw [uI_self, k3], hcB.bV, hcB.nB, fun _ => ⟨t, ht, hcB⟩⟩
      · obtain ⟨a1, a2, a3, a4⟩ := h.2.1 q hq
        refine ⟨?_, a2.rows (fun a g1 g2 => o a (by omega) (by omega)), fun i hi => nB.of (o _ (by omega) (by omega)) (a3 i hi), fun g => ?_⟩
        · rw [uI_ne _ _ _ e, x0_copyFrom (by omega), k2 q e]; exact a1
        · rw [uI_ne _ _ _ e, x0_copyFrom (by omega)] at g
          obtain ⟨t', t1, t2⟩ := a4 g
          refine ⟨t', t1, (t2.rows (fun a g1 g2 => ⟨o a (by omega) (by omega), oD a (by omega)⟩)).row2 (fun y hy => ?_)⟩
          rw [kR_eq, kR_eq]; exact k4 _ (by omega)
  · have g' : ¬ r11_in x 0 1 = true := g
    rw [if_neg g, if_neg g', if_neg g, if_neg g, if_neg g']
    exact ⟨rfl, h⟩
theorem rs_1 {si : Nat} : ∀ n j (J : Nat → Nat → Int32), (∀ a, a ≠ 297 → (i11_restore_26 x n j si J L) a = J a) ∧ (∀ y, (y < j ∨ j + n ≤ y) → (i11_restore_26 x n j si J L) 297 y = J 297 y) ∧ (∀ y, j ≤ y → y < j + n → (i11_restore_26 x n j si J L) 297 y = J 299 (y + 1310 * si)) ∧ r11_restore_26 x n j si J L = (i11_restore_26 x n j si J L) 297 1024 := by
  intro n
  induction n with
  | zero =>
    intro j J
    exact ⟨fun _ _ => rfl, fun _ _ => rfl, fun y h1 h2 => absurd h2 (by omega), rfl⟩
  | succ n ih =>
    intro j J
    simp only [i11_restore_26, r11_restore_26]
    obtain ⟨k1, k2, k3, k4⟩ := ih (j + 1) (uI J 297 j (J 299 (j + 1310 * si)))
    refine ⟨fun a h1 => (k1 a h1).trans (uI_off _ _ _ h1), fun y hy => (k2 y (by omega)).trans (uI_ne _ _ _ (by omega)), fun y h1 h2 => ?_, k4⟩
    by_cases e : y = j
    · subst e; rw [k2 _ (by omega), uI_self]
    · rw [k3 y (by omega) (by omega), uI_off _ _ _ (by decide)]
theorem Z_restore (h : REL b C D J) : r10_restore x C D = r11_restore x J L ∧ REL b (i10_restore x C D) (m10_restore x C D) (i11_restore x J L) := by
  unfold r10_restore r11_restore i10_restore m10_restore i11_restore
  by_cases g : r10_isSlot x = true
  · have g' : r11_in x 0 1 = true := g
    obtain ⟨s, s1, -, rfl⟩ := within_nat (a := 0) (b := 1) (by decide) (by decide) g
    rw [if_pos g, if_pos g', if_pos g, if_pos g, if_pos g', nI_clamp (by omega)]
    obtain ⟨a1, a2, a3, a4⟩ := h.2.1 s (by omega)
    rw [← a1]
    by_cases g0 : C 286 s = 0
    · rw [if_pos g0, if_pos g0, if_pos g0, if_pos g0, if_pos g0]; exact ⟨rfl, h⟩
    · rw [if_neg g0, if_neg g0, if_neg g0, if_neg g0, if_neg g0]
      obtain ⟨t, ht, hS⟩ := a4 g0
      obtain ⟨k1, k2, k3, k4⟩ := rs_1 (x := nI s) (L := L) (si := s) 1310 0 J
      have hc : BR t 1 (i0_copyFrom 1 (144 + 71 * s) C D) (m0_copyFrom 1 (144 + 71 * s) C D) (i11_restore_26 (nI s) 1310 0 s J L) := (BR.copy (B := 1) (B2 := 144 + 71 * s) (by omega) hS).row2 (fun y hy => k3 y (by omega) (by omega))
      refine ⟨?_, h.of (Nat.le_refl _) ⟨t, ht, hc⟩ (fun a g => x0_copyFrom (by omega)) (fun a g1 g2 => y0_copyFrom (by omega)) (fun a g1 g2 => k1 a (by omega)) (by rw [k1 296 (by decide)]) (by rw [k1 296 (by decide)])⟩
      rw [k4]
      exact hc.1.trans hc.2.1.symm
  · have g' : ¬ r11_in x 0 1 = true := g
    rw [if_neg g, if_neg g', if_neg g, if_neg g, if_neg g']
    exact ⟨rfl, h⟩
end RE
