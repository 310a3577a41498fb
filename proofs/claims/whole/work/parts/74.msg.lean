/-! periodic messages -/
section MS
variable {b t m : Nat} {C J C' J' : Nat → Nat → Int32} {D D' L : Nat → Nat → Int64} {x : Int32}
/-- a message beside a message -/
def mE (j : Nat) (C J : Nat → Nat → Int32) : Prop := ∃ idn ln pd jt, (idn ≤ 2047 ∧ ln ≤ 4 ∧ 1 ≤ pd ∧ pd ≤ 5000 ∧ jt ≤ 500) ∧ (J 302 (4 * j) = nI idn ∧ J 302 (4 * j + 1) = nI ln ∧ J 302 (4 * j + 2) = nI pd ∧ J 302 (4 * j + 3) = nI jt) ∧ C 289 j = nI idn ∧ C 290 j = nI (wN ln) ∧ C 291 j = nI pd ∧ C 292 j = nI jt
theorem mE.g (h : ∀ j, j < m → mE j C J) : mG m J := fun k hk => by
  obtain ⟨idn, ln, pd, jt, ⟨-, h2, h3, h4, h5⟩, ⟨-, e2, e3, e4⟩, -⟩ := h k hk
  exact ⟨ln, pd, jt, h2, h3, h4, h5, e2, e3, e4⟩
theorem mE.q {j : Nat} (h : mE j C J) : C 289 j = J 302 (4 * j) ∧ C 290 j = r11_worst (J 302 (4 * j + 1)) ∧ C 291 j = J 302 (4 * j + 2) ∧ C 292 j = J 302 (4 * j + 3) ∧ ¬ J 302 (4 * j + 2) ≤ 0 := by
  obtain ⟨idn, ln, pd, jt, ⟨h1, h2, h3, h4, h5⟩, ⟨e1, e2, e3, e4⟩, c1, c2, c3, c4⟩ := h
  exact ⟨c1.trans e1.symm, by rw [c2, e2, worst_N h2], c3.trans e3.symm, c4.trans e4.symm, by rw [e3]; exact nI_ge (a := 0) (by omega) (by omega)⟩
theorem mix_eq (h : ∀ j, j < m → mE j C J) : ∀ n j, j + n = m → r5_indexOf_2 x n j C D = r11_messageOf_2 x n j J L := by
  intro n
  induction n with
  | zero => intro j _; rfl
  | succ n ih =>
    intro j hj
    simp only [r5_indexOf_2, r11_messageOf_2]
    rw [(h j (by omega)).q.1, ih _ (by omega)]
theorem mix_sp : ∀ n j, (r11_messageOf_2 x n j J L = (-1) ∧ ∀ y, j ≤ y → y < j + n → ¬ J 302 (4 * y) = x) ∨ ∃ p, j ≤ p ∧ p < j + n ∧ r11_messageOf_2 x n j J L = nI p ∧ J 302 (4 * p) = x := by
  intro n
  induction n with
  | zero => intro j; exact Or.inl ⟨rfl, fun y g1 g2 => absurd g2 (by omega)⟩
  | succ n ih =>
    intro j
    simp only [r11_messageOf_2]
    by_cases hc : J 302 (4 * j) = x
    · rw [if_pos hc]; exact Or.inr ⟨j, by omega, by omega, rfl, hc⟩
    · rw [if_neg hc]
      rcases ih (j + 1) with ⟨h1, h2⟩ | ⟨p, h1, h2, h3, h4⟩
      · refine Or.inl ⟨h1, fun y g1 g2 => ?_⟩
        by_cases e : y = j
        · rw [e]; exact hc
        · exact h2 y (by omega) (by omega)
      · exact Or.inr ⟨p, by omega, by omega, h3, h4⟩
theorem ms_ix (h2 : C 288 4 = nI m) (h3 : J 296 7 = nI m) (hm : m ≤ 8) (h : ∀ j, j < m → mE j C J) : r5_indexOf x C D = r11_messageOf x J L ∧ (r11_messageOf x J L = (-1) ∨ ∃ p, p < m ∧ r11_messageOf x J L = nI p) := by
  unfold r5_indexOf r11_messageOf
  rw [h2, h3, nI_clamp (by omega)]
  refine ⟨mix_eq h m 0 (by omega), ?_⟩
  rcases mix_sp (x := x) (J := J) (L := L) m 0 with ⟨q, -⟩ | ⟨p, -, p2, p3, -⟩
  · exact Or.inl q
  · exact Or.inr ⟨p, by omega, p3⟩
/-! the response time -/
theorem bl_eq {p : Nat} {ow : Int32} (hp : p < m) (h : ∀ j, j < m → mE j C J) : ∀ n j (z : Int32), j + n = m → r11_response_30 p n j m ow z J L = r11_response_97 p 5003 m ow (r5_blockingOf_4 p n j z C D) (r5_blockingOf_4 p n j z C D) J L := by
  intro n
  induction n with
  | zero => intro j z _; rfl
  | succ n ih =>
    intro j z hj
    simp only [r11_response_30, r5_blockingOf_4]
    rw [ih _ _ (by omega), (h j (by omega)).q.1, (h p hp).q.1, (h j (by omega)).q.2.1]
    have e : (if (J 302 (4 * j) ≤ J 302 (4 * p)) ∨ (r11_worst (J 302 (4 * j + 1)) ≤ z) then z else r11_worst (J 302 (4 * j + 1))) = (if J 302 (4 * j) ≤ J 302 (4 * p) then z else (if z < r11_worst (J 302 (4 * j + 1)) then r11_worst (J 302 (4 * j + 1)) else z)) := by
      by_cases g1 : J 302 (4 * j) ≤ J 302 (4 * p)
      · rw [if_pos (Or.inl g1), if_pos g1]
      · rw [if_neg g1]
        by_cases g2 : r11_worst (J 302 (4 * j + 1)) ≤ z
        · rw [if_pos (Or.inr g2), if_neg (Int32.not_lt.mpr g2)]
        · rw [if_neg (fun q => q.elim g1 g2), if_pos (Int32.not_le.mp g2)]
    rw [e]
theorem bl_N (h : ∀ j, j < m → mE j C J) {p : Nat} : ∀ n j (z : Int32), j + n = m → (∃ v, v ≤ 200 ∧ z = nI v) → ∃ v, v ≤ 200 ∧ r5_blockingOf_4 p n j z C D = nI v := by
  intro n
  induction n with
  | zero => intro j z _ hz; exact hz
  | succ n ih =>
    intro j z hj hz
    simp only [r5_blockingOf_4]
    refine ih _ _ (by omega) ?_
    obtain ⟨idn, ln, pd, jt, ⟨h1, h2, h3, h4, h5⟩, -, c1, c2, c3, c4⟩ := h j (by omega)
    rw [c2]
    split
    · exact hz
    · split
      · exact ⟨wN ln, by have := wN_le h2; omega, rfl⟩
      · exact hz
theorem if_eq {p : Nat} {ow y bl : Int32} (hp : p < m) (h : ∀ j, j < m → mE j C J) : ∀ n j (z : Int32), j + n = m → bl + r5_interference_5 (J 302 (4 * p)) y n j z C D = r11_response_120 p ow bl y n j (bl + z) J L := by
  intro n
  induction n with
  | zero => intro j z _; rfl
  | succ n ih =>
    intro j z hj
    simp only [r5_interference_5, r11_response_120]
    obtain ⟨q1, q2, q3, q4, q5⟩ := (h j (by omega)).q
    rw [ih _ _ (by omega), q1, q2, q3, q4]
    congr 1
    by_cases g : J 302 (4 * p) ≤ J 302 (4 * j)
    · rw [if_pos (Or.inl g), if_pos g, Int32.add_zero]
    · rw [if_neg (fun q => q.elim g q5), if_neg g]
      exact (Int32.add_assoc bl z _).symm
theorem wr_eq {p : Nat} (hm8 : m ≤ 8) (hp : p < m) (h2 : C 288 4 = nI m) (h : ∀ j, j < m → mE j C J) : ∀ n N q (bl wv : Int32), n ≤ N → rInv p m n ((J 302 (4 * p + 3)) + (r11_worst (J 302 (4 * p + 1)))) bl wv J → r5_worstResponse_26 p N q bl wv C D = r11_response_97 p n m ((J 302 (4 * p + 3)) + (r11_worst (J 302 (4 * p + 1)))) bl wv J L := by
  intro n
  induction n with
  | zero =>
    intro N q bl wv _ hv
    obtain ⟨on, bb, wn, -, -, -, -, -, -, -, h5⟩ := hv
    omega
  | succ n ih =>
    intro N q bl wv hN hv
    cases N with
    | zero => omega
    | succ N =>
      simp only [r5_worstResponse_26, r11_response_97]
      obtain ⟨q1, q2, q3, q4, q5⟩ := (h p hp).q
      have it : bl + r5_interference (C 289 p) wv C D = r11_response_120 p ((J 302 (4 * p + 3)) + (r11_worst (J 302 (4 * p + 1)))) bl wv m 0 bl J L := by
        unfold r5_interference
        rw [h2, nI_clamp (by omega), q1, if_eq (L := L) (ow := (J 302 (4 * p + 3)) + (r11_worst (J 302 (4 * p + 1)))) hp h m 0 0 (by omega), Int32.add_zero]
      have ad : (C 292 p + wv) + C 290 p = ((J 302 (4 * p + 3)) + (r11_worst (J 302 (4 * p + 1)))) + wv := by
        rw [q4, q2, Int32.add_assoc, Int32.add_comm wv, ← Int32.add_assoc]
      rw [it, ad, q3]
      by_cases g : J 302 (4 * p + 2) < ((J 302 (4 * p + 3)) + (r11_worst (J 302 (4 * p + 1)))) + wv
      · rw [if_pos g, if_neg (Int32.not_le.mpr g)]
      · rw [if_neg g, if_pos (Int32.not_lt.mp g)]
        by_cases g2 : r11_response_120 p ((J 302 (4 * p + 3)) + (r11_worst (J 302 (4 * p + 1)))) bl wv m 0 bl J L = wv
        · rw [if_pos g2, if_pos g2]
        · rw [if_neg g2, if_neg g2]
          exact ih N _ bl _ (by omega) (rInv_step (mE.g h) hm8 hp hv g g2)
theorem rs_eq {p : Nat} (hm8 : m ≤ 8) (hp : p < m) (h2 : C 288 4 = nI m) (h3 : J 296 7 = nI m) (h : ∀ j, j < m → mE j C J) : r5_worstResponse p C D = r11_response p J L := by
  unfold r5_worstResponse r11_response r5_blockingOf
  rw [h2, h3, nI_clamp (by omega), bl_eq (D := D) hp h m 0 0 (by omega)]
  obtain ⟨v, v1, v2⟩ := bl_N (D := D) (p := p) h m 0 0 (by omega) ⟨0, by omega, rfl⟩
  rw [v2]
  obtain ⟨on, o1, o2⟩ := mG_ow (mE.g h) hp
  exact wr_eq hm8 hp h2 h 5003 10000 0 (nI v) (nI v) (by omega) ⟨on, v, v, o1, v1, o2, rfl, rfl, by omega, by omega, by omega⟩
theorem E_responseTime (h : MR C J) : r10_responseTime x C D = r11_responseTime x J L := by
  obtain ⟨m, m1, m2, m3, m4⟩ := h
  unfold r10_responseTime r11_responseTime
  obtain ⟨e, q | ⟨p, p1, p2⟩⟩ := ms_ix (x := x) (D := D) (L := L) m2 m3 m1 m4
  · rw [e, q]; rfl
  · rw [e, p2, if_pos (nI_pos' (by omega)), if_pos (nI_pos' (by omega)), nI_clamp (by omega)]
    exact rs_eq m1 p1 m2 m3 m4
theorem E_misses (h : MR C J) : r10_misses C D = r11_misses J L := by
  obtain ⟨m, m1, m2, m3, m4⟩ := h
  unfold r10_misses r11_misses
  rw [m2, m3, nI_clamp (by omega)]
  have key : ∀ n j z, j + n = m → r10_misses_4 n j z C D = r11_misses_4 n j z J L := by
    intro n
    induction n with
    | zero => intro j z _; rfl
    | succ n ih =>
      intro j z hj
      simp only [r10_misses_4, r11_misses_4]
      rw [rs_eq (L := L) m1 (show j < m by omega) m2 m3 m4, ih _ _ (by omega)]
      by_cases g : r11_response j J L = (-5)
      · rw [if_pos g, if_pos g]; rfl
      · rw [if_neg g, if_neg g]
        show _ = r11_misses_4 n (j + 1) (z + 0) J L
        rw [Int32.add_zero]
  exact key m 0 0 (by omega)
/-! to add and remove -/
theorem K_addMessage {idn ln pd jt : Int32} (h : MR C J) : r10_addMessage idn ln pd jt C D = r11_addMessage idn ln pd jt J L ∧ MR (i10_addMessage idn ln pd jt C D) (i11_addMessage idn ln pd jt J L) ∧ (∀ a, a < 288 ∨ 292 < a → (i10_addMessage idn ln pd jt C D) a = C a) ∧ (∀ a, a ≠ 296 → a ≠ 302 → (i11_addMessage idn ln pd jt J L) a = J a) ∧ ∀ y, y ≠ 7 → (i11_addMessage idn ln pd jt J L) 296 y = J 296 y := by
  have h0 := h
  obtain ⟨m, m1, m2, m3, m4⟩ := h
  unfold r10_addMessage r11_addMessage i10_addMessage i11_addMessage
  by_cases g : (¬ ((r10_isIdentifier idn) = true)) ∨ ((¬ ((r10_isLength ln) = true)) ∨ ((¬ ((r10_isWithin pd 1 5000) = true)) ∨ (¬ ((r10_isWithin jt 0 500) = true))))
  · have g' : (¬ ((r11_in idn 0 2047) = true)) ∨ ((¬ ((r11_in ln 0 4) = true)) ∨ ((¬ ((r11_in pd 1 5000) = true)) ∨ (¬ ((r11_in jt 0 500) = true)))) := g
    rw [if_pos g, if_pos g', if_pos g, if_pos g']
    exact ⟨rfl, h0, fun _ _ => rfl, fun _ _ _ => rfl, fun _ _ => rfl⟩
  · have g' : ¬ ((¬ ((r11_in idn 0 2047) = true)) ∨ ((¬ ((r11_in ln 0 4) = true)) ∨ ((¬ ((r11_in pd 1 5000) = true)) ∨ (¬ ((r11_in jt 0 500) = true))))) := g
    rw [if_neg g, if_neg g', if_neg g, if_neg g']
    have g1 : r10_isIdentifier idn = true := Classical.byContradiction fun q => g (Or.inl q)
    have g2 : r10_isLength ln = true := Classical.byContradiction fun q => g (Or.inr (Or.inl q))
    have g3 : r10_isWithin pd 1 5000 = true := Classical.byContradiction fun q => g (Or.inr (Or.inr (Or.inl q)))
    have g4 : r10_isWithin jt 0 500 = true := Classical.byContradiction fun q => g (Or.inr (Or.inr (Or.inr q)))
    obtain ⟨ni, i1, -, rfl⟩ := within_nat (a := 0) (b := 2047) (by decide) (by decide) g1
    obtain ⟨nl, l1, -, rfl⟩ := within_nat (a := 0) (b := 4) (by decide) (by decide) g2
    obtain ⟨np, p1, p0, rfl⟩ := within_nat (a := 1) (b := 5000) (by decide) (by decide) g3
    obtain ⟨nj, j1, -, rfl⟩ := within_nat (a := 0) (b := 500) (by decide) (by decide) g4
    have lw : r10_longestFrame (nI nl) = nI (wN nl) := worst_N l1
    -- the new state, at place p
    have fin : ∀ (p m' : Nat), p < 8 → m' ≤ 8 → p < m' → (∀ j, j < m' → j ≠ p → j < m) → ∀ (E F : Nat → Nat → Int32), (∀ y, y ≠ p → E 289 y = C 289 y ∧ E 290 y = C 290 y ∧ E 291 y = C 291 y ∧ E 292 y = C 292 y) → (E 289 p = nI ni ∧ E 290 p = nI (wN nl) ∧ E 291 p = nI np ∧ E 292 p = nI nj) → E 288 4 = nI m' → F 296 7 = nI m' → (F 302 (4 * p) = nI ni ∧ F 302 (4 * p + 1) = nI nl ∧ F 302 (4 * p + 2) = nI np ∧ F 302 (4 * p + 3) = nI nj) → (∀ y, (y < 4 * p ∨ 4 * p + 4 ≤ y) → F 302 y = J 302 y) → MR E F := by
      intro p m' hp8 hm8 hpm hjm E F hE hEp h288 h7 hFp hF
      refine ⟨m', hm8, h288, h7, fun j hj => ?_⟩
      by_cases e : j = p
      · subst e; exact ⟨ni, nl, np, nj, ⟨i1, l1, p0, p1, j1⟩, hFp, hEp⟩
      · obtain ⟨e1, e2, e3, e4⟩ := hE j e
        rw [e1, e2, e3, e4, hF _ (by omega), hF _ (by omega), hF _ (by omega), hF _ (by omega)]
        exact m4 j (hjm j hj e)
    unfold r5_put i5_put
    obtain ⟨e, q | ⟨p, q1, q2⟩⟩ := ms_ix (x := nI ni) (D := D) (L := L) m2 m3 m1 m4
    · rw [e, q, if_pos (show ((-1) : Int32) < 0 by decide), if_neg (show ¬ (0 : Int32) ≤ (-1) by decide), if_neg (show ¬ (0 : Int32) ≤ (-1) by decide), m2, m3, nI_clamp (by omega)]
      by_cases g8 : m = 8
      · subst g8
        rw [if_neg (show ¬ nI 8 < 8 by decide), if_neg (show ¬ nI 8 < 8 by decide), if_neg (show ¬ false = true by decide), if_pos (show nI 8 = 8 by decide), if_pos (show nI 8 = 8 by decide)]
        exact ⟨rfl, h0, fun _ _ => rfl, fun _ _ _ => rfl, fun _ _ => rfl⟩
      · have c1 : nI m < 8 := nI_lt (b := 8) (by omega) (by omega)
        have c2 : ¬ nI m = 8 := fun z => g8 ((nI_eq (b := 8) (by omega) (by omega)).mp z)
        have c3 : nI m < nI (m + 1) := nI_lt (by omega) (by omega)
        rw [if_pos c1, if_pos c1, if_pos rfl, if_neg c2, if_neg c2, nI_1, if_pos c3, lw]
        refine ⟨uI_self _ _ _ _, fin m (m + 1) (by omega) (by omega) (by omega) (fun j h1 h2 => by omega) _ _ (fun y hy => ?_) ?_ (uI_self _ _ _ _) ?_ ?_ (fun y hy => ?_), fun a ha => ?_, fun a ha hb => ?_, fun y hy => ?_⟩
        · simp [uI_eq, hy]
        · simp [uI_eq]
        · simp [uI_eq]
        · simp [uI_eq]
        · rw [uI_ne _ _ _ (by omega), uI_ne _ _ _ (by omega), uI_ne _ _ _ (by omega), uI_ne _ _ _ (by omega), uI_off _ _ _ (by decide)]
        · rw [uI_off _ _ _ (by omega), uI_off _ _ _ (by omega), uI_off _ _ _ (by omega), uI_off _ _ _ (by omega), uI_off _ _ _ (by omega)]
        · rw [uI_off _ _ _ hb, uI_off _ _ _ hb, uI_off _ _ _ hb, uI_off _ _ _ hb, uI_off _ _ _ ha]
        · rw [uI_off _ _ _ (by decide), uI_off _ _ _ (by decide), uI_off _ _ _ (by decide), uI_off _ _ _ (by decide), uI_ne _ _ _ hy]
    · have p0 : (0 : Int32) ≤ nI p := nI_pos' (by omega)
      have c1 : nI p < 8 := nI_lt (b := 8) (by omega) (by omega)
      have c3 : ¬ nI m < nI (p + 1) := nI_nlt (by omega) (by omega)
      rw [e, q2, if_neg (show ¬ nI p < 0 from nI_pos (by omega)), if_pos p0, if_pos p0, nI_clamp (by omega), if_pos c1, if_pos c1, if_pos rfl, m2, m3, nI_1, if_neg c3, lw]
      refine ⟨uI_self _ _ _ _, fin p m (by omega) (by omega) (by omega) (fun j h1 h2 => h1) _ _ (fun y hy => ?_) ?_ (uI_self _ _ _ _) ?_ ?_ (fun y hy => ?_), fun a ha => ?_, fun a ha hb => ?_, fun y hy => ?_⟩
      · simp [uI_eq, hy]
      · simp [uI_eq]
      · rw [uI_off _ _ _ (by decide), uI_off _ _ _ (by decide), uI_off _ _ _ (by decide), uI_off _ _ _ (by decide)]; exact m3
      · simp [uI_eq]
      · rw [uI_ne _ _ _ (by omega), uI_ne _ _ _ (by omega), uI_ne _ _ _ (by omega), uI_ne _ _ _ (by omega)]
      · rw [uI_off _ _ _ (by omega), uI_off _ _ _ (by omega), uI_off _ _ _ (by omega), uI_off _ _ _ (by omega), uI_off _ _ _ (by omega)]
      · rw [uI_off _ _ _ hb, uI_off _ _ _ hb, uI_off _ _ _ hb, uI_off _ _ _ hb]
      · rw [uI_off _ _ _ (by decide), uI_off _ _ _ (by decide), uI_off _ _ _ (by decide), uI_off _ _ _ (by decide)]
theorem rm25 {p q : Nat} : ∀ n j (C : Nat → Nat → Int32), (∀ a, a < 289 ∨ 292 < a → (i5_removeAt_25 p n j q C D) a = C a) ∧ ∀ a y, 289 ≤ a → a ≤ 292 → (i5_removeAt_25 p n j q C D) a y = if j ≤ y ∧ y < j + n then C a (y + 1) else C a y := by
  intro n
  induction n with
  | zero => intro j C; exact ⟨fun _ _ => rfl, fun a y _ _ => by rw [if_neg (by omega)]; rfl⟩
  | succ n ih =>
    intro j C
    simp only [i5_removeAt_25]
    obtain ⟨k1, k2⟩ := ih (j + 1) (uI (uI (uI (uI C 289 j (C 289 (j + 1))) 290 j (C 290 (j + 1))) 291 j (C 291 (j + 1))) 292 j (C 292 (j + 1)))
    have key : ∀ a y, 289 ≤ a → a ≤ 292 → (uI (uI (uI (uI C 289 j (C 289 (j + 1))) 290 j (C 290 (j + 1))) 291 j (C 291 (j + 1))) 292 j (C 292 (j + 1))) a y = if y = j then C a (j + 1) else C a y := by
      intro a y h1 h2
      by_cases e : y = j
      · subst e; rw [if_pos rfl]
        rcases (show a = 289 ∨ a = 290 ∨ a = 291 ∨ a = 292 by omega) with rfl | rfl | rfl | rfl <;> simp [uI_eq]
      · rw [if_neg e]; simp [uI_eq, e]
    have e1 : (uI C 289 j (C 289 (j + 1))) 290 (j + 1) = C 290 (j + 1) := by rw [uI_off _ _ _ (by decide)]
    have e2 : (uI (uI C 289 j (C 289 (j + 1))) 290 j ((uI C 289 j (C 289 (j + 1))) 290 (j + 1))) 291 (j + 1) = C 291 (j + 1) := by rw [uI_off _ _ _ (by decide), uI_off _ _ _ (by decide)]
    refine ⟨fun a ha => ?_, fun a y h1 h2 => ?_⟩
    · rw [k1 a ha, uI_off _ _ _ (by omega), uI_off _ _ _ (by omega), uI_off _ _ _ (by omega), uI_off _ _ _ (by omega)]
    · rw [k2 a y h1 h2]
      by_cases g : j + 1 ≤ y ∧ y < j + 1 + n
      · rw [if_pos g, if_pos (by omega), key a _ h1 h2, if_neg (by omega)]
      · rw [if_neg g, key a _ h1 h2]
        by_cases e : y = j
        · subst e; rw [if_pos rfl, if_pos (by omega)]
        · rw [if_neg e, if_neg (by omega)]
theorem rm27 {q : Nat} : ∀ n j (J : Nat → Nat → Int32), (∀ a, a ≠ 302 → (i11_removeMessage_27 x n j q J L) a = J a) ∧ (∀ y, (i11_removeMessage_27 x n j q J L) 302 y = if j ≤ y ∧ y < j + n then J 302 (y + 4) else J 302 y) ∧ r11_removeMessage_27 x n j q J L = J 296 7 := by
  intro n
  induction n with
  | zero => intro j J; exact ⟨fun _ _ => rfl, fun y => by rw [if_neg (by omega)]; rfl, rfl⟩
  | succ n ih =>
    intro j J
    simp only [i11_removeMessage_27, r11_removeMessage_27]
    obtain ⟨k1, k2, k3⟩ := ih (j + 1) (uI J 302 j (J 302 (j + 4)))
    refine ⟨fun a ha => (k1 a ha).trans (uI_off _ _ _ ha), fun y => ?_, k3.trans (by rw [uI_off _ _ _ (by decide)])⟩
    rw [k2]
    by_cases g : j + 1 ≤ y ∧ y < j + 1 + n
    · rw [if_pos g, if_pos (by omega), uI_ne _ _ _ (by omega)]
    · rw [if_neg g]
      by_cases e : y = j
      · subst e; rw [if_pos (by omega), uI_self]
      · rw [if_neg (by omega), uI_ne _ _ _ (by omega)]
theorem K_removeMessage (h : MR C J) : r10_removeMessage x C D = r11_removeMessage x J L ∧ MR (i10_removeMessage x C D) (i11_removeMessage x J L) ∧ (∀ a, a < 288 ∨ 292 < a → (i10_removeMessage x C D) a = C a) ∧ (∀ a, a ≠ 296 → a ≠ 302 → (i11_removeMessage x J L) a = J a) ∧ ∀ y, y ≠ 7 → (i11_removeMessage x J L) 296 y = J 296 y := by
  have h0 := h
  obtain ⟨m, m1, m2, m3, m4⟩ := h
  unfold r10_removeMessage r11_removeMessage i10_removeMessage i11_removeMessage
  obtain ⟨e, q | ⟨p, q1, q2⟩⟩ := ms_ix (x := x) (D := D) (L := L) m2 m3 m1 m4
  · rw [e, q, if_neg (show ¬ (0 : Int32) ≤ (-1) by decide), if_neg (show ¬ (0 : Int32) ≤ (-1) by decide), if_neg (show ¬ (0 : Int32) ≤ (-1) by decide), if_neg (show ¬ (0 : Int32) ≤ (-1) by decide)]
    exact ⟨rfl, h0, fun _ _ => rfl, fun _ _ _ => rfl, fun _ _ => rfl⟩
  · have p0 : (0 : Int32) ≤ nI p := nI_pos' (by omega)
    unfold i5_removeAt
    rw [e, q2, if_pos p0, if_pos p0, if_pos p0, if_pos p0, nI_clamp (n := p) (by omega), m2, m3, nI_clamp (n := m) (by omega), show nI m - 1 = nI (m - 1) from nI_sub (b := 1) (by omega)]
    obtain ⟨k1, k2⟩ := rm25 (D := D) (p := p) (q := m - 1) (m - 1 - p) p (uI C 288 4 (nI (m - 1)))
    obtain ⟨l1, l2, l3⟩ := rm27 (x := x) (L := L) (q := m - 1) (4 * (m - 1 - p)) (4 * p) (uI J 296 7 (nI (m - 1)))
    have c288 : (i5_removeAt_25 p (m - 1 - p) p (m - 1) (uI C 288 4 (nI (m - 1))) D) 288 4 = nI (m - 1) := by rw [k1 288 (by omega), uI_self]
    have j7 : (i11_removeMessage_27 x (4 * (m - 1 - p)) (4 * p) (m - 1) (uI J 296 7 (nI (m - 1))) L) 296 7 = nI (m - 1) := by rw [l1 296 (by decide), uI_self]
    refine ⟨by rw [c288, l3, uI_self], ⟨m - 1, by omega, c288, j7, fun j hj => ?_⟩, fun a ha => ?_, fun a h1 h2 => ?_, fun y hy => ?_⟩
    · have cc : ∀ a, 289 ≤ a → a ≤ 292 → (i5_removeAt_25 p (m - 1 - p) p (m - 1) (uI C 288 4 (nI (m - 1))) D) a j = C a (if p ≤ j then j + 1 else j) := fun a g1 g2 => by
        rw [k2 a j g1 g2, uI_off _ _ _ (by omega)]
        by_cases g : p ≤ j
        · rw [if_pos (by omega), if_pos g]
        · rw [if_neg (by omega), if_neg g]
      have jj : ∀ c, c < 4 → (i11_removeMessage_27 x (4 * (m - 1 - p)) (4 * p) (m - 1) (uI J 296 7 (nI (m - 1))) L) 302 (4 * j + c) = J 302 (4 * (if p ≤ j then j + 1 else j) + c) := fun c hc => by
        rw [l2, uI_off _ _ _ (by decide)]
        by_cases g : p ≤ j
        · rw [if_pos (by omega), if_pos g, show 4 * j + c + 4 = 4 * (j + 1) + c by omega]
        · rw [if_neg (by omega), if_neg g]
      rw [cc 289 (by omega) (by omega), cc 290 (by omega) (by omega), cc 291 (by omega) (by omega), cc 292 (by omega) (by omega), jj 1 (by omega), jj 2 (by omega), jj 3 (by omega)]
      have j0 := jj 0 (by omega)
      rw [Nat.add_zero, Nat.add_zero] at j0
      rw [j0]
      exact m4 _ (by split <;> omega)
    · rw [k1 a (by omega), uI_off _ _ _ (by omega)]
    · rw [l1 a h2, uI_off _ _ _ h1]
    · rw [l1 296 (by decide), uI_ne _ _ _ hy]
end MS
