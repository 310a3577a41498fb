/-! a node of the class beside a node of the reference -/
def TR (t k i : Nat) (C J : Nat → Nat → Int32) : Prop :=
  (∀ kd, 1 ≤ kd → kd ≤ 5 → C (k + 2) kd = J 297 (256 * i + kd + 5)) ∧ (∃ m, m ≤ 5 ∧ J 297 (256 * i + 11) = nI m ∧ C (k + 1) 1 = (if m = 0 then (-5) else nI m)) ∧
  C (k + 1) 2 = J 297 (256 * i + 12) ∧ C (k + 1) 3 = J 297 (256 * i + 13) ∧ C (k + 1) 5 = J 297 (256 * i + 15) ∧ C (k + 1) 4 = J 297 (256 * i + 14) ∧ ∃ s, s ≤ t ∧ J 297 (256 * i + 14) = nI s
/-- a waiting frame -/
def wE (k i j : Nat) (C J : Nat → Nat → Int32) : Prop := ∃ idn rm ln, idn ≤ 2047 ∧ rm ≤ 1 ∧ ln ≤ 4 ∧ J 297 (256 * i + 5 * j + 30) = nI idn ∧ J 297 (256 * i + 5 * j + 31) = nI rm ∧ J 297 (256 * i + 5 * j + 32) = nI ln ∧ C (k + 4) j = nI (2 * idn + rm) ∧ C (k + 5) j = nI ln ∧ C (k + 6) j = J 297 (256 * i + 5 * j + 33) ∧ dOK rm ln (J 297 (256 * i + 5 * j + 33))
def WR (k i : Nat) (C J : Nat → Nat → Int32) : Prop := ∃ w, w ≤ 4 ∧ C (k + 3) 3 = nI w ∧ J 297 (256 * i + 23) = nI w ∧ (∀ j, j < w → wE k i j C J) ∧ (∀ j, j + 1 < w → C (k + 4) j ≤ C (k + 4) (j + 1)) ∧ ∀ j, j < 4 → ∃ q, q ≤ 4 ∧ J 297 (256 * i + 5 * j + 32) = nI q
/-- the received frames -/
def GR (k i : Nat) (C J : Nat → Nat → Int32) : Prop := ∃ r, r ≤ 6 ∧ C (k + 7) 3 = nI r ∧ J 297 (256 * i + 24) = nI r ∧ ∀ j, j < r → C (k + 8) j = (2 : Int32) * J 297 (256 * i + 4 * j + 50) + J 297 (256 * i + 4 * j + 51) ∧ C (k + 9) j = J 297 (256 * i + 4 * j + 52) ∧ C (k + 10) j = J 297 (256 * i + 4 * j + 53)
/-- the answers, in any order -/
def cA (k : Nat) (C : Nat → Nat → Int32) (a : Nat) : List (Int32 × Int32 × Int32) := (List.range a).map fun j => (C (k + 12) j, C (k + 13) j, C (k + 14) j)
def rA (i : Nat) (J : Nat → Nat → Int32) (a : Nat) : List (Int32 × Int32 × Int32) := (List.range a).map fun j => ((2 : Int32) * J 297 (256 * i + 3 * j + 74), J 297 (256 * i + 3 * j + 75), J 297 (256 * i + 3 * j + 76))
def AR (k i : Nat) (C J : Nat → Nat → Int32) : Prop := ∃ a, a ≤ 4 ∧ C (k + 11) 3 = nI a ∧ J 297 (256 * i + 25) = nI a ∧ (cA k C a).Perm (rA i J a) ∧ (∀ j, j < a → ∃ idn ln, idn ≤ 2047 ∧ ln ≤ 4 ∧ J 297 (256 * i + 3 * j + 74) = nI idn ∧ J 297 (256 * i + 3 * j + 75) = nI ln ∧ dOK 0 ln (J 297 (256 * i + 3 * j + 76))) ∧ ∀ j j', j < a → j' < a → J 297 (256 * i + 3 * j + 74) = J 297 (256 * i + 3 * j' + 74) → j = j'
/-- what doesn't hang on the phase -/
def NB (t k i : Nat) (C J : Nat → Nat → Int32) : Prop :=
  (C k 9 = J 297 (256 * i + 1) ∧ (J 297 (256 * i + 1) = 0 ∨ J 297 (256 * i + 1) = 1)) ∧ (C k 10 = J 297 (256 * i + 4) ∧ ∃ n, n ≤ 8 * t ∧ J 297 (256 * i + 4) = nI n) ∧ (C k 11 = J 297 (256 * i + 5) ∧ ∃ n, n ≤ 255 ∧ J 297 (256 * i + 5) = nI n) ∧
  (C k 6 = J 297 (256 * i + 16) ∧ C k 7 = J 297 (256 * i + 17)) ∧ ((C k 14 = 0 ∨ C k 14 = 1) ∧ (C k 15 = 0 ∨ C k 15 = 1)) ∧ TR t k i C J ∧ WR k i C J ∧ GR k i C J ∧ AR k i C J
/-- the frame being sent -/
def SR (k i : Nat) (C J : Nat → Nat → Int32) : Prop := (C k 17 = (-1) ∧ ∀ j, j < 4 → J 297 (256 * i + 5 * j + 34) = 0) ∨ ∃ s w, s < w ∧ w ≤ 4 ∧ C (k + 3) 3 = nI w ∧ C k 17 = nI s ∧ ∀ j, j < 4 → J 297 (256 * i + 5 * j + 34) = (if j = s then 1 else 0)
def cB (p c : Int32) : Prop := ∃ n, c = nI n ∧ n ≤ 10 ∧ (p = 5 ∨ p = 6 → n ≤ 5) ∧ (p = 7 ∨ p = 9 → n ≤ 7) ∧ (p = 8 → n ≤ 2)
/-- the bits before the sum of a frame with b basic bits so far -/
def bdN (b : Nat) (bf : Nat → Nat) : Nat := if b < 19 then 19 else 19 + byN (bf 12) (numN (fun j => bf (15 + j)) 4)
def XR (b k i : Nat) (C : Nat → Nat → Int32) (D : Nat → Nat → Int64) (J : Nat → Nat → Int32) : Prop := ¬ C k 17 = (-1) ∧ ∃ idn rm ln d, idn ≤ 2047 ∧ rm ≤ 1 ∧ ln ≤ 4 ∧ dOK rm ln d ∧ D k 18 = r2_outgoingBits (nI (2 * idn + rm)) (nI ln) d ∧ (∀ j, j < 34 + byN rm ln → J 297 (256 * i + j + 160) = layV (nI idn) (nI rm) ln d (byN rm ln) j) ∧ ∀ j, j < b → J 297 (256 * i + j + 90) = J 297 (256 * i + j + 160)
/-- a frame so far: b basic bits, e equal ones, T of the tail, the last la, the bits bf -/
def FP (b e T la : Nat) (bf : Nat → Nat) (k i : Nat) (C : Nat → Nat → Int32) (D : Nat → Nat → Int64) (J : Nat → Nat → Int32) : Prop :=
  (1 ≤ b ∧ b ≤ bdN b bf + 15 ∧ 1 ≤ e ∧ e ≤ 5 ∧ T ≤ 9 ∧ la ≤ 1 ∧ bf 0 = 0 ∧ (19 ≤ b → numN (fun j => bf (15 + j)) 4 ≤ 4)) ∧
  (∀ j, j < b → bf j ≤ 1 ∧ J 297 (256 * i + j + 90) = nI (bf j)) ∧
  (C (k + 15) 0 = nI b ∧ J 297 (256 * i + 19) = nI b) ∧ (C (k + 15) 6 = nI la ∧ J 297 (256 * i + 21) = nI la) ∧ (C (k + 15) 7 = nI e ∧ J 297 (256 * i + 20) = nI e) ∧
  (C (k + 15) 1 = nI (bdN b bf) ∧ D (k + 15) 2 = lN (numN bf (min b (bdN b bf))) ∧ C (k + 15) 3 = (if b < 19 then 0 else nI (numN bf 19)) ∧ C (k + 15) 4 = crcF (fun j => nI (bf j)) (min b (bdN b bf)) ∧ C (k + 15) 5 = nI (numN (fun j => bf (bdN b bf + j)) (b - bdN b bf))) ∧
  (C (k + 15) 8 = nI T ∧ ((b < bdN b bf + 15 ∨ e = 5) → T = 0 ∧ J 297 (256 * i + 22) = (-1)) ∧ (¬ (b < bdN b bf + 15 ∨ e = 5) → J 297 (256 * i + 22) = nI T)) ∧
  (J 297 (256 * i + 1) = 1 → XR b k i C D J)
def NP (k i : Nat) (C : Nat → Nat → Int32) (D : Nat → Nat → Int64) (J : Nat → Nat → Int32) : Prop :=
  C k 8 = J 297 (256 * i) ∧ C k 12 = J 297 (256 * i + 2) ∧ cB (J 297 (256 * i)) (J 297 (256 * i + 2)) ∧ (J 297 (256 * i) = 1 → C k 13 = J 297 (256 * i + 3)) ∧ (J 297 (256 * i) = 7 → C k 15 = J 297 (256 * i + 3)) ∧ (J 297 (256 * i) = 5 → C k 14 = J 297 (256 * i + 18)) ∧ SR k i C J ∧ (J 297 (256 * i) = 4 → ∃ b e T la bf, FP b e T la bf k i C D J)
def NR (t k i : Nat) (C : Nat → Nat → Int32) (D : Nat → Nat → Int64) (J : Nat → Nat → Int32) : Prop := NB t k i C J ∧ NP k i C D J
def LR (l : Nat) (C J : Nat → Nat → Int32) : Prop := ∃ p o r, 8 ≤ p ∧ p ≤ 128 ∧ p < o ∧ o ≤ 256 ∧ 1 ≤ r ∧ r ≤ 16 ∧ C l 0 = nI p ∧ J 297 1025 = nI p ∧ C l 1 = nI o ∧ J 297 1026 = nI o ∧ C l 2 = nI r ∧ J 297 1027 = nI r
/-! they hang on few places -/
section CG
variable {t k i : Nat} {C C' J J' : Nat → Nat → Int32} {D D' : Nat → Nat → Int64}
theorem TR.congr (h : TR t k i C J) (h1 : ∀ b, b < 6 → C' (k + 1) b = C (k + 1) b) (h2 : ∀ b, b < 6 → C' (k + 2) b = C (k + 2) b) (hJ : ∀ s x, x = 256 * i + s → 6 ≤ s → s ≤ 15 → J' 297 x = J 297 x) : TR t k i C' J' := by
  obtain ⟨a1, ⟨m, m1, m2, m3⟩, a2, a3, a4, a5, s, s1, s2⟩ := h
  refine ⟨fun kd g1 g2 => ?_, ⟨m, m1, ?_, ?_⟩, ?_, ?_, ?_, ?_, s, s1, ?_⟩
  · rw [h2 kd (by omega), hJ (kd + 5) _ (by omega) (by omega) (by omega)]; exact a1 kd g1 g2
  · rw [hJ 11 _ rfl (by omega) (by omega)]; exact m2
  · rw [h1 1 (by omega)]; exact m3
  · rw [h1 2 (by omega), hJ 12 _ rfl (by omega) (by omega)]; exact a2
  · rw [h1 3 (by omega), hJ 13 _ rfl (by omega) (by omega)]; exact a3
  · rw [h1 5 (by omega), hJ 15 _ rfl (by omega) (by omega)]; exact a4
  · rw [h1 4 (by omega), hJ 14 _ rfl (by omega) (by omega)]; exact a5
  · rw [hJ 14 _ rfl (by omega) (by omega)]; exact s2
theorem TR.le {t' : Nat} (h : TR t k i C J) (ht : t ≤ t') : TR t' k i C J := by
  obtain ⟨a1, a2, a3, a4, a5, a6, s, s1, s2⟩ := h
  exact ⟨a1, a2, a3, a4, a5, a6, s, by omega, s2⟩
def wJ (s : Nat) : Prop := s = 23 ∨ (30 ≤ s ∧ s < 50 ∧ s ≠ 34 ∧ s ≠ 39 ∧ s ≠ 44 ∧ s ≠ 49)
theorem wE.congr {j : Nat} (hj : j < 4) (h : wE k i j C J) (h4 : C' (k + 4) j = C (k + 4) j) (h5 : C' (k + 5) j = C (k + 5) j) (h6 : C' (k + 6) j = C (k + 6) j) (hJ : ∀ s x, x = 256 * i + s → wJ s → J' 297 x = J 297 x) : wE k i j C' J' := by
  obtain ⟨idn, rm, ln, a1, a2, a3, a4, a5, a6, a7, a8, a9, a10⟩ := h
  refine ⟨idn, rm, ln, a1, a2, a3, ?_, ?_, ?_, h4.trans a7, h5.trans a8, ?_, ?_⟩
  · rw [hJ (5 * j + 30) _ (by omega) (by unfold wJ; omega)]; exact a4
  · rw [hJ (5 * j + 31) _ (by omega) (by unfold wJ; omega)]; exact a5
  · rw [hJ (5 * j + 32) _ (by omega) (by unfold wJ; omega)]; exact a6
  · rw [h6, hJ (5 * j + 33) _ (by omega) (by unfold wJ; omega)]; exact a9
  · rw [hJ (5 * j + 33) _ (by omega) (by unfold wJ; omega)]; exact a10
theorem WR.congr (h : WR k i C J) (h3 : C' (k + 3) 3 = C (k + 3) 3) (h4 : ∀ j, j < 4 → C' (k + 4) j = C (k + 4) j) (h5 : ∀ j, j < 4 → C' (k + 5) j = C (k + 5) j) (h6 : ∀ j, j < 4 → C' (k + 6) j = C (k + 6) j) (hJ : ∀ s x, x = 256 * i + s → wJ s → J' 297 x = J 297 x) : WR k i C' J' := by
  obtain ⟨w, a1, a2, a3, a4, a5, a6⟩ := h
  refine ⟨w, a1, h3.trans a2, ?_, fun j hj => (a4 j hj).congr (by omega) (h4 j (by omega)) (h5 j (by omega)) (h6 j (by omega)) hJ, fun j hj => ?_, fun j hj => ?_⟩
  · rw [hJ 23 _ rfl (Or.inl rfl)]; exact a3
  · rw [h4 j (by omega), h4 (j + 1) (by omega)]; exact a5 j hj
  · rw [hJ (5 * j + 32) _ (by omega) (by unfold wJ; omega)]; exact a6 j hj
theorem GR.congr (h : GR k i C J) (h7 : C' (k + 7) 3 = C (k + 7) 3) (h8 : ∀ j, j < 6 → C' (k + 8) j = C (k + 8) j) (h9 : ∀ j, j < 6 → C' (k + 9) j = C (k + 9) j) (h10 : ∀ j, j < 6 → C' (k + 10) j = C (k + 10) j) (hJ : ∀ s x, x = 256 * i + s → (s = 24 ∨ (50 ≤ s ∧ s < 74)) → J' 297 x = J 297 x) : GR k i C' J' := by
  obtain ⟨r, a1, a2, a3, a4⟩ := h
  refine ⟨r, a1, h7.trans a2, ?_, fun j hj => ⟨?_, ?_, ?_⟩⟩
  · rw [hJ 24 _ rfl (Or.inl rfl)]; exact a3
  · rw [h8 j (by omega), hJ (4 * j + 50) _ (by omega) (by omega), hJ (4 * j + 51) _ (by omega) (by omega)]; exact (a4 j hj).1
  · rw [h9 j (by omega), hJ (4 * j + 52) _ (by omega) (by omega)]; exact (a4 j hj).2.1
  · rw [h10 j (by omega), hJ (4 * j + 53) _ (by omega) (by omega)]; exact (a4 j hj).2.2
theorem cA_congr {a : Nat} (h12 : ∀ j, j < a → C' (k + 12) j = C (k + 12) j) (h13 : ∀ j, j < a → C' (k + 13) j = C (k + 13) j) (h14 : ∀ j, j < a → C' (k + 14) j = C (k + 14) j) : cA k C' a = cA k C a := by
  unfold cA
  apply List.map_congr_left
  intro j hj
  rw [List.mem_range] at hj
  rw [h12 j hj, h13 j hj, h14 j hj]
theorem rA_congr {a : Nat} (hJ : ∀ s x, x = 256 * i + s → 74 ≤ s → s < 74 + 3 * a → J' 297 x = J 297 x) : rA i J' a = rA i J a := by
  unfold rA
  apply List.map_congr_left
  intro j hj
  rw [List.mem_range] at hj
  rw [hJ (3 * j + 74) _ (by omega) (by omega) (by omega), hJ (3 * j + 75) _ (by omega) (by omega) (by omega), hJ (3 * j + 76) _ (by omega) (by omega) (by omega)]
theorem AR.congr (h : AR k i C J) (h11 : C' (k + 11) 3 = C (k + 11) 3) (h12 : ∀ j, j < 4 → C' (k + 12) j = C (k + 12) j) (h13 : ∀ j, j < 4 → C' (k + 13) j = C (k + 13) j) (h14 : ∀ j, j < 4 → C' (k + 14) j = C (k + 14) j) (hJ : ∀ s x, x = 256 * i + s → (s = 25 ∨ (74 ≤ s ∧ s < 86)) → J' 297 x = J 297 x) : AR k i C' J' := by
  obtain ⟨a, a1, a2, a3, a4, a5, a6⟩ := h
  refine ⟨a, a1, h11.trans a2, ?_, ?_, fun j hj => ?_, fun j j' hj hj' e => ?_⟩
  · rw [hJ 25 _ rfl (Or.inl rfl)]; exact a3
  · rw [cA_congr (fun j hj => h12 j (by omega)) (fun j hj => h13 j (by omega)) (fun j hj => h14 j (by omega)), rA_congr (fun s x e g1 g2 => hJ s x e (by omega))]; exact a4
  · rw [hJ (3 * j + 74) _ (by omega) (by omega), hJ (3 * j + 75) _ (by omega) (by omega), hJ (3 * j + 76) _ (by omega) (by omega)]; exact a5 j hj
  · rw [hJ (3 * j + 74) _ (by omega) (by omega), hJ (3 * j' + 74) _ (by omega) (by omega)] at e; exact a6 j j' hj hj' e
def sC (k a b : Nat) : Prop := (a = k ∧ (b = 6 ∨ b = 7 ∨ b = 9 ∨ b = 10 ∨ b = 11 ∨ b = 14 ∨ b = 15)) ∨ (k + 1 ≤ a ∧ a ≤ k + 14)
def sJ (s : Nat) : Prop := s = 1 ∨ (4 ≤ s ∧ s ≤ 17) ∨ (23 ≤ s ∧ s ≤ 25) ∨ (30 ≤ s ∧ s < 86 ∧ s ≠ 34 ∧ s ≠ 39 ∧ s ≠ 44 ∧ s ≠ 49)
theorem NB.congr (h : NB t k i C J) (hC : ∀ a b, sC k a b → C' a b = C a b) (hJ : ∀ s x, x = 256 * i + s → sJ s → J' 297 x = J 297 x) : NB t k i C' J' := by
  obtain ⟨a1, a2, a3, a4, a5, a6, a7, a8, a9⟩ := h
  refine ⟨?_, ?_, ?_, ?_, ?_, a6.congr (fun b _ => hC _ _ (by unfold sC; omega)) (fun b _ => hC _ _ (by unfold sC; omega)) (fun s x e g1 g2 => hJ s x e (by unfold sJ; omega)), a7.congr (hC _ _ (by unfold sC; omega)) (fun b _ => hC _ _ (by unfold sC; omega)) (fun b _ => hC _ _ (by unfold sC; omega)) (fun b _ => hC _ _ (by unfold sC; omega)) (fun s x e g1 => hJ s x e (by unfold wJ at g1; unfold sJ; omega)), a8.congr (hC _ _ (by unfold sC; omega)) (fun b _ => hC _ _ (by unfold sC; omega)) (fun b _ => hC _ _ (by unfold sC; omega)) (fun b _ => hC _ _ (by unfold sC; omega)) (fun s x e g1 => hJ s x e (by unfold sJ; omega)), a9.congr (hC _ _ (by unfold sC; omega)) (fun b _ => hC _ _ (by unfold sC; omega)) (fun b _ => hC _ _ (by unfold sC; omega)) (fun b _ => hC _ _ (by unfold sC; omega)) (fun s x e g1 => hJ s x e (by unfold sJ; omega))⟩
  · rw [hC k 9 (by unfold sC; omega), hJ 1 _ rfl (by unfold sJ; omega)]; exact a1
  · rw [hC k 10 (by unfold sC; omega), hJ 4 _ rfl (by unfold sJ; omega)]; exact a2
  · rw [hC k 11 (by unfold sC; omega), hJ 5 _ rfl (by unfold sJ; omega)]; exact a3
  · rw [hC k 6 (by unfold sC; omega), hC k 7 (by unfold sC; omega), hJ 16 _ rfl (by unfold sJ; omega), hJ 17 _ rfl (by unfold sJ; omega)]; exact a4
  · rw [hC k 14 (by unfold sC; omega), hC k 15 (by unfold sC; omega)]; exact a5
theorem NB.le {t' : Nat} (h : NB t k i C J) (ht : t ≤ t') : NB t' k i C J := by
  obtain ⟨a1, ⟨a2, n, n1, n2⟩, a3, a4, a5, a6, a7⟩ := h
  exact ⟨a1, ⟨a2, n, by omega, n2⟩, a3, a4, a5, a6.le ht, a7⟩
theorem SR.congr (h : SR k i C J) (h17 : C' k 17 = C k 17) (h3 : C' (k + 3) 3 = C (k + 3) 3) (hJ : ∀ s x, x = 256 * i + s → (s = 34 ∨ s = 39 ∨ s = 44 ∨ s = 49) → J' 297 x = J 297 x) : SR k i C' J' := by
  rcases h with ⟨a, b⟩ | ⟨s, w, a1, a2, a3, a4, a5⟩
  · exact Or.inl ⟨h17.trans a, fun j hj => (hJ (5 * j + 34) _ (by omega) (by omega)).trans (b j hj)⟩
  · exact Or.inr ⟨s, w, a1, a2, h3.trans a3, h17.trans a4, fun j hj => (hJ (5 * j + 34) _ (by omega) (by omega)).trans (a5 j hj)⟩
theorem XR.congr {b : Nat} (hb : b ≤ 66) (h : XR b k i C D J) (h17 : C' k 17 = C k 17) (h18 : D' k 18 = D k 18) (hJ : ∀ s x, x = 256 * i + s → 90 ≤ s → s < 256 → J' 297 x = J 297 x) : XR b k i C' D' J' := by
  obtain ⟨a, idn, rm, ln, d, a1, a2, a3, a4, a5, a6, a7⟩ := h
  have hby := byN_le (rm := rm) a3
  refine ⟨by rw [h17]; exact a, idn, rm, ln, d, a1, a2, a3, a4, h18.trans a5, fun j hj => ?_, fun j hj => ?_⟩
  · rw [hJ (j + 160) _ (by omega) (by omega) (by omega)]; exact a6 j hj
  · rw [hJ (j + 90) _ (by omega) (by omega) (by omega), hJ (j + 160) _ (by omega) (by omega) (by omega)]; exact a7 j hj
theorem bdN_le {b : Nat} {bf : Nat → Nat} (h : 19 ≤ b → numN (fun j => bf (15 + j)) 4 ≤ 4) : bdN b bf ≤ 51 := by
  unfold bdN
  split
  · omega
  · have := byN_le (rm := bf 12) (h (by omega))
    omega
theorem FP.congr {b e T la : Nat} {bf : Nat → Nat} (h : FP b e T la bf k i C D J) (hC : ∀ b, C' (k + 15) b = C (k + 15) b) (hD : D' (k + 15) 2 = D (k + 15) 2) (h17 : C' k 17 = C k 17) (h18 : D' k 18 = D k 18) (h1 : J' 297 (256 * i + 1) = J 297 (256 * i + 1)) (hJ : ∀ s x, x = 256 * i + s → ((19 ≤ s ∧ s ≤ 22) ∨ 90 ≤ s) → s < 256 → J' 297 x = J 297 x) : FP b e T la bf k i C' D' J' := by
  obtain ⟨a1, a2, a3, a4, a5, a6, a7, a8⟩ := h
  have hB := bdN_le a1.2.2.2.2.2.2.2
  refine ⟨a1, fun j hj => ⟨(a2 j hj).1, ?_⟩, ⟨(hC 0).trans a3.1, ?_⟩, ⟨(hC 6).trans a4.1, ?_⟩, ⟨(hC 7).trans a5.1, ?_⟩, ⟨(hC 1).trans a6.1, hD.trans a6.2.1, (hC 3).trans a6.2.2.1, (hC 4).trans a6.2.2.2.1, (hC 5).trans a6.2.2.2.2⟩, ⟨(hC 8).trans a7.1, ?_, ?_⟩, fun g => ?_⟩
  · rw [hJ (j + 90) _ (by omega) (by omega) (by omega)]; exact (a2 j hj).2
  · rw [hJ 19 _ rfl (by omega) (by omega)]; exact a3.2
  · rw [hJ 21 _ rfl (by omega) (by omega)]; exact a4.2
  · rw [hJ 20 _ rfl (by omega) (by omega)]; exact a5.2
  · rw [hJ 22 _ rfl (by omega) (by omega)]; exact a7.2.1
  · rw [hJ 22 _ rfl (by omega) (by omega)]; exact a7.2.2
  · rw [h1] at g
    exact (a8 g).congr (by omega) h17 h18 (fun s x e g1 g2 => hJ s x e (by omega) g2)
end CG
