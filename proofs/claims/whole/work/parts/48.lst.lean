/-! the lists: inserting and removing -/
section LS
variable {k c i : Nat} {key ln dt : Int32} {D L : Nat → Nat → Int64}
theorem ins31_1 {p : Nat} : ∀ (n : Nat) (C : Nat → Nat → Int32) (j : Nat), (i3_insertAt_31 k c p key ln dt n (p + n) C D) (k + 1) j = if j = p then key else if p < j ∧ j ≤ p + n then C (k + 1) (j - 1) else C (k + 1) j := by
  intro n
  induction n with
  | zero =>
    intro C j
    simp only [i3_insertAt_31]
    rw [uI_off _ _ _ (by omega)]
    simp only [uI_eq]
    by_cases h : j = p
    · simp [h]
    · rw [if_neg (by omega), if_neg (by omega), if_neg (by omega), if_neg h, if_neg (by omega)]
  | succ n ih =>
    intro C j
    simp only [i3_insertAt_31]
    rw [show p + (n + 1) - 1 = p + n by omega, ih]
    simp only [uI_eq]
    by_cases h : j = p
    · rw [if_pos h, if_pos h]
    · rw [if_neg h, if_neg h]
      by_cases h1 : p < j ∧ j ≤ p + n
      · rw [if_pos h1, if_pos (show p < j ∧ j ≤ p + (n + 1) by omega), if_neg (by omega), if_neg (by omega), if_neg (by omega)]
      · rw [if_neg h1]
        by_cases h2 : j = p + (n + 1)
        · rw [if_pos (show p < j ∧ j ≤ p + (n + 1) by omega), show j - 1 = p + n by omega]
          simp [h2]
        · rw [if_neg (show ¬ (p < j ∧ j ≤ p + (n + 1)) by omega), if_neg (by omega), if_neg (by omega), if_neg (by omega)]
theorem ins_1 {p s : Nat} {C : Nat → Nat → Int32} {j : Nat} (hs : C k 3 = nI s) (hs6 : s ≤ 8) (hp : p ≤ s) : (i3_insertAt k c p key ln dt C D) (k + 1) j = if j = p then key else if p < j ∧ j ≤ s then C (k + 1) (j - 1) else C (k + 1) j := by
  unfold i3_insertAt
  rw [hs, nI_clamp (by omega)]
  have := ins31_1 (k := k) (c := c) (key := key) (ln := ln) (dt := dt) (D := D) (p := p) (s - p) C j
  rw [show p + (s - p) = s by omega] at this
  exact this
theorem ins31_2 {p : Nat} : ∀ (n : Nat) (C : Nat → Nat → Int32) (j : Nat), (i3_insertAt_31 k c p key ln dt n (p + n) C D) (k + 2) j = if j = p then ln else if p < j ∧ j ≤ p + n then C (k + 2) (j - 1) else C (k + 2) j := by
  intro n
  induction n with
  | zero =>
    intro C j
    simp only [i3_insertAt_31]
    rw [uI_off _ _ _ (by omega)]
    simp only [uI_eq]
    by_cases h : j = p
    · simp [h]
    · rw [if_neg (by omega), if_neg (by omega), if_neg (by omega), if_neg h, if_neg (by omega)]
  | succ n ih =>
    intro C j
    simp only [i3_insertAt_31]
    rw [show p + (n + 1) - 1 = p + n by omega, ih]
    simp only [uI_eq]
    by_cases h : j = p
    · rw [if_pos h, if_pos h]
    · rw [if_neg h, if_neg h]
      by_cases h1 : p < j ∧ j ≤ p + n
      · rw [if_pos h1, if_pos (show p < j ∧ j ≤ p + (n + 1) by omega), if_neg (by omega), if_neg (by omega), if_neg (by omega)]
      · rw [if_neg h1]
        by_cases h2 : j = p + (n + 1)
        · rw [if_pos (show p < j ∧ j ≤ p + (n + 1) by omega), show j - 1 = p + n by omega]
          simp [h2]
        · rw [if_neg (show ¬ (p < j ∧ j ≤ p + (n + 1)) by omega), if_neg (by omega), if_neg (by omega), if_neg (by omega)]
theorem ins_2 {p s : Nat} {C : Nat → Nat → Int32} {j : Nat} (hs : C k 3 = nI s) (hs6 : s ≤ 8) (hp : p ≤ s) : (i3_insertAt k c p key ln dt C D) (k + 2) j = if j = p then ln else if p < j ∧ j ≤ s then C (k + 2) (j - 1) else C (k + 2) j := by
  unfold i3_insertAt
  rw [hs, nI_clamp (by omega)]
  have := ins31_2 (k := k) (c := c) (key := key) (ln := ln) (dt := dt) (D := D) (p := p) (s - p) C j
  rw [show p + (s - p) = s by omega] at this
  exact this
theorem ins31_3 {p : Nat} : ∀ (n : Nat) (C : Nat → Nat → Int32) (j : Nat), (i3_insertAt_31 k c p key ln dt n (p + n) C D) (k + 3) j = if j = p then dt else if p < j ∧ j ≤ p + n then C (k + 3) (j - 1) else C (k + 3) j := by
  intro n
  induction n with
  | zero =>
    intro C j
    simp only [i3_insertAt_31]
    rw [uI_off _ _ _ (by omega)]
    simp only [uI_eq]
    by_cases h : j = p
    · simp [h]
    · rw [if_neg (by omega), if_neg (by omega), if_neg (by omega), if_neg h, if_neg (by omega)]
  | succ n ih =>
    intro C j
    simp only [i3_insertAt_31]
    rw [show p + (n + 1) - 1 = p + n by omega, ih]
    simp only [uI_eq]
    by_cases h : j = p
    · rw [if_pos h, if_pos h]
    · rw [if_neg h, if_neg h]
      by_cases h1 : p < j ∧ j ≤ p + n
      · rw [if_pos h1, if_pos (show p < j ∧ j ≤ p + (n + 1) by omega), if_neg (by omega), if_neg (by omega), if_neg (by omega)]
      · rw [if_neg h1]
        by_cases h2 : j = p + (n + 1)
        · rw [if_pos (show p < j ∧ j ≤ p + (n + 1) by omega), show j - 1 = p + n by omega]
          simp [h2]
        · rw [if_neg (show ¬ (p < j ∧ j ≤ p + (n + 1)) by omega), if_neg (by omega), if_neg (by omega), if_neg (by omega)]
theorem ins_3 {p s : Nat} {C : Nat → Nat → Int32} {j : Nat} (hs : C k 3 = nI s) (hs6 : s ≤ 8) (hp : p ≤ s) : (i3_insertAt k c p key ln dt C D) (k + 3) j = if j = p then dt else if p < j ∧ j ≤ s then C (k + 3) (j - 1) else C (k + 3) j := by
  unfold i3_insertAt
  rw [hs, nI_clamp (by omega)]
  have := ins31_3 (k := k) (c := c) (key := key) (ln := ln) (dt := dt) (D := D) (p := p) (s - p) C j
  rw [show p + (s - p) = s by omega] at this
  exact this
theorem ins31_s {p : Nat} : ∀ (n q : Nat) (C : Nat → Nat → Int32), (i3_insertAt_31 k c p key ln dt n q C D) k 3 = C k 3 + 1 := by
  intro n
  induction n with
  | zero => intro q C; simp only [i3_insertAt_31]; rw [uI_self]
  | succ n ih => intro q C; simp only [i3_insertAt_31]; rw [ih, uI_off _ _ _ (by omega), uI_off _ _ _ (by omega), uI_off _ _ _ (by omega)]
theorem ins_s {p : Nat} {C : Nat → Nat → Int32} : (i3_insertAt k c p key ln dt C D) k 3 = C k 3 + 1 := by
  unfold i3_insertAt
  exact ins31_s _ _ _
theorem ins_row {p a : Nat} {C : Nat → Nat → Int32} (h : a < k ∨ k + 3 < a) : (i3_insertAt k c p key ln dt C D) a = C a := x3_insertAt (by omega) (by omega) (by omega) (by omega)

theorem rm21_1 {x : Int32} : ∀ (n p t : Nat) (C : Nat → Nat → Int32) (j : Nat), (i3_removeAt_21 k c x n p t C D) (k + 1) j = if p ≤ j ∧ j < p + n then C (k + 1) (j + 1) else C (k + 1) j := by
  intro n
  induction n with
  | zero => intro p t C j; simp only [i3_removeAt_21]; rw [if_neg (by omega)]
  | succ n ih =>
    intro p t C j
    simp only [i3_removeAt_21]
    rw [ih]
    simp only [uI_eq]
    by_cases h1 : p + 1 ≤ j ∧ j < p + 1 + n
    · rw [if_pos h1, if_pos (show p ≤ j ∧ j < p + (n + 1) by omega), if_neg (by omega), if_neg (by omega), if_neg (by omega)]
    · rw [if_neg h1]
      by_cases h2 : j = p
      · rw [if_pos (show p ≤ j ∧ j < p + (n + 1) by omega)]
        simp [h2]
      · rw [if_neg (show ¬ (p ≤ j ∧ j < p + (n + 1)) by omega), if_neg (by omega), if_neg (by omega), if_neg (by omega)]
theorem rm_1 {p s : Nat} {C : Nat → Nat → Int32} {j : Nat} (hs : C k 3 = nI s) (hs6 : s ≤ 8) (hp : p < s) : (i3_removeAt k c (nI p) C D) (k + 1) j = if p ≤ j ∧ j < s - 1 then C (k + 1) (j + 1) else C (k + 1) j := by
  have hh : r3_has k c (nI p) C D = true := by
    unfold r3_has
    rw [hs, if_neg]
    rintro (q | q)
    · exact absurd q (nI_pos (by omega))
    · exact absurd q (nI_ge (by omega) (by omega))
  unfold i3_removeAt
  rw [if_pos hh, hs, nI_clamp (by omega), nI_clamp (by omega), rm21_1, uI_off _ _ _ (by omega), show p + (s - 1 - p) = s - 1 by omega]
theorem rm21_2 {x : Int32} : ∀ (n p t : Nat) (C : Nat → Nat → Int32) (j : Nat), (i3_removeAt_21 k c x n p t C D) (k + 2) j = if p ≤ j ∧ j < p + n then C (k + 2) (j + 1) else C (k + 2) j := by
  intro n
  induction n with
  | zero => intro p t C j; simp only [i3_removeAt_21]; rw [if_neg (by omega)]
  | succ n ih =>
    intro p t C j
    simp only [i3_removeAt_21]
    rw [ih]
    simp only [uI_eq]
    by_cases h1 : p + 1 ≤ j ∧ j < p + 1 + n
    · rw [if_pos h1, if_pos (show p ≤ j ∧ j < p + (n + 1) by omega), if_neg (by omega), if_neg (by omega), if_neg (by omega)]
    · rw [if_neg h1]
      by_cases h2 : j = p
      · rw [if_pos (show p ≤ j ∧ j < p + (n + 1) by omega)]
        simp [h2]
      · rw [if_neg (show ¬ (p ≤ j ∧ j < p + (n + 1)) by omega), if_neg (by omega), if_neg (by omega), if_neg (by omega)]
theorem rm_2 {p s : Nat} {C : Nat → Nat → Int32} {j : Nat} (hs : C k 3 = nI s) (hs6 : s ≤ 8) (hp : p < s) : (i3_removeAt k c (nI p) C D) (k + 2) j = if p ≤ j ∧ j < s - 1 then C (k + 2) (j + 1) else C (k + 2) j := by
  have hh : r3_has k c (nI p) C D = true := by
    unfold r3_has
    rw [hs, if_neg]
    rintro (q | q)
    · exact absurd q (nI_pos (by omega))
    · exact absurd q (nI_ge (by omega) (by omega))
  unfold i3_removeAt
  rw [if_pos hh, hs, nI_clamp (by omega), nI_clamp (by omega), rm21_2, uI_off _ _ _ (by omega), show p + (s - 1 - p) = s - 1 by omega]
theorem rm21_3 {x : Int32} : ∀ (n p t : Nat) (C : Nat → Nat → Int32) (j : Nat), (i3_removeAt_21 k c x n p t C D) (k + 3) j = if p ≤ j ∧ j < p + n then C (k + 3) (j + 1) else C (k + 3) j := by
  intro n
  induction n with
  | zero => intro p t C j; simp only [i3_removeAt_21]; rw [if_neg (by omega)]
  | succ n ih =>
    intro p t C j
    simp only [i3_removeAt_21]
    rw [ih]
    simp only [uI_eq]
    by_cases h1 : p + 1 ≤ j ∧ j < p + 1 + n
    · rw [if_pos h1, if_pos (show p ≤ j ∧ j < p + (n + 1) by omega), if_neg (by omega), if_neg (by omega), if_neg (by omega)]
    · rw [if_neg h1]
      by_cases h2 : j = p
      · rw [if_pos (show p ≤ j ∧ j < p + (n + 1) by omega)]
        simp [h2]
      · rw [if_neg (show ¬ (p ≤ j ∧ j < p + (n + 1)) by omega), if_neg (by omega), if_neg (by omega), if_neg (by omega)]
theorem rm_3 {p s : Nat} {C : Nat → Nat → Int32} {j : Nat} (hs : C k 3 = nI s) (hs6 : s ≤ 8) (hp : p < s) : (i3_removeAt k c (nI p) C D) (k + 3) j = if p ≤ j ∧ j < s - 1 then C (k + 3) (j + 1) else C (k + 3) j := by
  have hh : r3_has k c (nI p) C D = true := by
    unfold r3_has
    rw [hs, if_neg]
    rintro (q | q)
    · exact absurd q (nI_pos (by omega))
    · exact absurd q (nI_ge (by omega) (by omega))
  unfold i3_removeAt
  rw [if_pos hh, hs, nI_clamp (by omega), nI_clamp (by omega), rm21_3, uI_off _ _ _ (by omega), show p + (s - 1 - p) = s - 1 by omega]
theorem rm_none {x : Int32} {C : Nat → Nat → Int32} (h : x < 0) : i3_removeAt k c x C D = C := by
  unfold i3_removeAt r3_has
  rw [if_pos (Or.inl h), if_neg (by decide)]
theorem rm_row {x : Int32} {a : Nat} {C : Nat → Nat → Int32} (h : a < k ∨ k + 3 < a) : (i3_removeAt k c x C D) a = C a := x3_removeAt (by omega) (by omega) (by omega) (by omega)
/-! the reference's waiting frames -/
def wpl (i : Nat) (ky : Int32) (J : Nat → Nat → Int32) : Nat → Nat
  | 0 => 0
  | n + 1 => if ((2 : Int32) * (J 297 (256 * i + 5 * n + 30))) + (J 297 (256 * i + 5 * n + 31)) ≤ ky then n + 1 else wpl i ky J n
theorem wpl_congr {ky : Int32} {J J' : Nat → Nat → Int32} : ∀ n, (∀ s, s < 5 * n + 30 → J' 297 (256 * i + s) = J 297 (256 * i + s)) → wpl i ky J' n = wpl i ky J n := by
  intro n
  induction n with
  | zero => intro _; rfl
  | succ n ih =>
    intro h
    have e1 := h (5 * n + 30) (by omega)
    have e2 := h (5 * n + 31) (by omega)
    rw [← Nat.add_assoc] at e1 e2
    simp only [wpl]
    rw [e1, e2, ih (fun s hs => h s (by omega))]
theorem wpl_le {ky : Int32} {J : Nat → Nat → Int32} : ∀ n, wpl i ky J n ≤ n := by
  intro n
  induction n with
  | zero => exact Nat.le_refl _
  | succ n ih =>
    simp only [wpl]
    split <;> omega
/-- the new frame's places -/
def nwF (idn rm ln dt : Int32) (q : Nat) : Int32 := if q = 0 then idn else if q = 1 then rm else if q = 2 then ln else if q = 3 then dt else 0
theorem wt_get {idn rm ky : Int32} : ∀ (n j0 : Nat) (J : Nat → Nat → Int32) (j q s : Nat), n ≤ 3 → q < 5 → s = 256 * i + 5 * j + q + 30 → (i11_waits_20 i idn rm ln dt n j0 ky J L) 297 s = if j < wpl i ky J n then J 297 s else if j = wpl i ky J n then nwF idn rm ln dt q else if j ≤ n then J 297 (s - 5) else J 297 s := by
  intro n
  have put : ∀ (J : Nat → Nat → Int32) (m j q s : Nat), q < 5 → s = 256 * i + 5 * j + q + 30 → (uI (uI (uI (uI (uI (uI J 297 (256 * i + 5 * m + 30) idn) 297 (256 * i + 5 * m + 31) rm) 297 (256 * i + 5 * m + 32) ln) 297 (256 * i + 5 * m + 33) dt) 297 (256 * i + 5 * m + 34) 0) 297 (256 * i + 23) ((J 297 (256 * i + 23)) + 1)) 297 s = if j = m then nwF idn rm ln dt q else J 297 s := by
    intro J m j q s hq hs
    subst hs
    rw [uI_ne _ _ _ (by omega)]
    by_cases e : j = m
    · subst e
      rw [if_pos rfl]
      rcases (show q = 0 ∨ q = 1 ∨ q = 2 ∨ q = 3 ∨ q = 4 by omega) with rfl | rfl | rfl | rfl | rfl
      · rw [uI_ne _ _ _ (by omega), uI_ne _ _ _ (by omega), uI_ne _ _ _ (by omega), uI_ne _ _ _ (by omega)]; exact uI_self _ _ _ _
      · rw [uI_ne _ _ _ (by omega), uI_ne _ _ _ (by omega), uI_ne _ _ _ (by omega)]; exact uI_self _ _ _ _
      · rw [uI_ne _ _ _ (by omega), uI_ne _ _ _ (by omega)]; exact uI_self _ _ _ _
      · rw [uI_ne _ _ _ (by omega)]; exact uI_self _ _ _ _
      · exact uI_self _ _ _ _
    · rw [if_neg e, uI_ne _ _ _ (by omega), uI_ne _ _ _ (by omega), uI_ne _ _ _ (by omega), uI_ne _ _ _ (by omega), uI_ne _ _ _ (by omega)]
  induction n with
  | zero =>
    intro j0 J j q s _ hq hs
    have ew : wpl i ky J 0 = 0 := rfl
    rw [ew]
    simp only [i11_waits_20]
    have h1 := put J 0 j q s hq hs
    rw [show 256 * i + 5 * 0 + 30 = 256 * i + 30 from rfl, show 256 * i + 5 * 0 + 31 = 256 * i + 31 from rfl, show 256 * i + 5 * 0 + 32 = 256 * i + 32 from rfl, show 256 * i + 5 * 0 + 33 = 256 * i + 33 from rfl, show 256 * i + 5 * 0 + 34 = 256 * i + 34 from rfl] at h1
    rw [h1, if_neg (show ¬ j < 0 by omega)]
    by_cases e : j = 0
    · rw [if_pos e, if_pos e]
    · rw [if_neg e, if_neg e, if_neg (by omega)]
  | succ n ih =>
    intro j0 J j q s hn hq hs
    simp only [i11_waits_20]
    by_cases hc : ((2 : Int32) * (J 297 (256 * i + 5 * n + 30))) + (J 297 (256 * i + 5 * n + 31)) ≤ ky
    · have ew : wpl i ky J (n + 1) = n + 1 := by simp only [wpl]; rw [if_pos hc]
      rw [if_pos hc, ew]
      have h1 := put J (n + 1) j q s hq hs
      rw [show 256 * i + 5 * (n + 1) + 30 = 256 * i + 5 * n + 35 by omega, show 256 * i + 5 * (n + 1) + 31 = 256 * i + 5 * n + 36 by omega, show 256 * i + 5 * (n + 1) + 32 = 256 * i + 5 * n + 37 by omega, show 256 * i + 5 * (n + 1) + 33 = 256 * i + 5 * n + 38 by omega, show 256 * i + 5 * (n + 1) + 34 = 256 * i + 5 * n + 39 by omega] at h1
      rw [h1]
      by_cases e : j = n + 1
      · rw [if_pos e, if_neg (by omega), if_pos e]
      · rw [if_neg e, if_neg e]
        by_cases e2 : j < n + 1
        · rw [if_pos e2]
        · rw [if_neg e2, if_neg (by omega)]
    · have ew : wpl i ky J (n + 1) = wpl i ky J n := by simp only [wpl]; rw [if_neg hc]
      rw [if_neg hc, ew]
      have mv : ∀ y, y ≠ 256 * i + 5 * n + 35 ∧ y ≠ 256 * i + 5 * n + 36 ∧ y ≠ 256 * i + 5 * n + 37 ∧ y ≠ 256 * i + 5 * n + 38 ∧ y ≠ 256 * i + 5 * n + 39 → (uI (uI (uI (uI (uI J 297 (256 * i + 5 * n + 35) (J 297 (256 * i + 5 * n + 30))) 297 (256 * i + 5 * n + 36) (J 297 (256 * i + 5 * n + 31))) 297 (256 * i + 5 * n + 37) (J 297 (256 * i + 5 * n + 32))) 297 (256 * i + 5 * n + 38) (J 297 (256 * i + 5 * n + 33))) 297 (256 * i + 5 * n + 39) (J 297 (256 * i + 5 * n + 34))) 297 y = J 297 y := fun y hy => by
        rw [uI_ne _ _ _ (by omega), uI_ne _ _ _ (by omega), uI_ne _ _ _ (by omega), uI_ne _ _ _ (by omega), uI_ne _ _ _ (by omega)]
      rw [ih n _ j q s (by omega) hq hs, wpl_congr n (fun y hy => mv _ (by omega))]
      have hl := wpl_le (i := i) (ky := ky) (J := J) n
      by_cases h1 : j < wpl i ky J n
      · rw [if_pos h1, if_pos h1, mv _ (by omega)]
      · rw [if_neg h1, if_neg h1]
        by_cases h2 : j = wpl i ky J n
        · rw [if_pos h2, if_pos h2]
        · rw [if_neg h2, if_neg h2]
          by_cases h3 : j ≤ n
          · rw [if_pos h3, if_pos (by omega), mv _ (by omega)]
          · rw [if_neg h3]
            by_cases h4 : j = n + 1
            · rw [if_pos (by omega)]
              subst h4
              subst hs
              rcases (show q = 0 ∨ q = 1 ∨ q = 2 ∨ q = 3 ∨ q = 4 by omega) with rfl | rfl | rfl | rfl | rfl
              · rw [uI_ne _ _ _ (by omega), uI_ne _ _ _ (by omega), uI_ne _ _ _ (by omega), uI_ne _ _ _ (by omega), show 256 * i + 5 * (n + 1) + 0 + 30 = 256 * i + 5 * n + 35 by omega, uI_self]; rfl
              · rw [uI_ne _ _ _ (by omega), uI_ne _ _ _ (by omega), uI_ne _ _ _ (by omega), show 256 * i + 5 * (n + 1) + 1 + 30 = 256 * i + 5 * n + 36 by omega, uI_self]; rfl
              · rw [uI_ne _ _ _ (by omega), uI_ne _ _ _ (by omega), show 256 * i + 5 * (n + 1) + 2 + 30 = 256 * i + 5 * n + 37 by omega, uI_self]; rfl
              · rw [uI_ne _ _ _ (by omega), show 256 * i + 5 * (n + 1) + 3 + 30 = 256 * i + 5 * n + 38 by omega, uI_self]; rfl
              · rw [show 256 * i + 5 * (n + 1) + 4 + 30 = 256 * i + 5 * n + 39 by omega, uI_self]; rfl
            · rw [if_neg (by omega), mv _ (by omega)]
theorem un7_get {p : Nat} : ∀ (n t : Nat) (J : Nat → Nat → Int32) (s : Nat), t + n = 45 → 30 ≤ t → 30 ≤ s → s < 50 → s ≠ 5 * ((J 297 (256 * i + 23)).toNatClampNeg - 1) + 34 → (i11_unwaits_7 i p n t J L) 297 (256 * i + s) = if t ≤ s ∧ s < 45 then J 297 (256 * i + s + 5) else J 297 (256 * i + s) := by
  intro n
  induction n with
  | zero =>
    intro t J s h1 h2 h3 h4 h5
    simp only [i11_unwaits_7]
    rw [uI_ne _ _ _ (by omega), uI_ne _ _ _ (by omega), if_neg (by omega)]
  | succ n ih =>
    intro t J s h1 h2 h3 h4 h5
    simp only [i11_unwaits_7]
    rw [ih (t + 1) _ s (by omega) (by omega) h3 h4 (by rw [uI_ne _ _ _ (by omega)]; exact h5)]
    by_cases g1 : t + 1 ≤ s ∧ s < 45
    · rw [if_pos g1, if_pos (by omega), uI_ne _ _ _ (by omega)]
    · rw [if_neg g1]
      by_cases g2 : s = t
      · subst g2
        rw [if_pos (by omega), uI_self]
      · rw [if_neg (by omega), uI_ne _ _ _ (by omega)]
theorem un_get {p w : Nat} {J : Nat → Nat → Int32} {s : Nat} (hp : p ≤ 3) (hw : J 297 (256 * i + 23) = nI w) (hw4 : w ≤ 4) (h3 : 30 ≤ s) (h4 : s < 50) (h5 : s ≠ 5 * (w - 1) + 34) : (i11_unwaits i p J L) 297 (256 * i + s) = if 5 * p + 30 ≤ s ∧ s < 45 then J 297 (256 * i + s + 5) else J 297 (256 * i + s) := by
  unfold i11_unwaits
  exact un7_get _ _ J s (by omega) (by omega) h3 h4 (by rw [hw, nI_clamp (by omega)]; exact h5)
theorem un7_fl {p w : Nat} : ∀ (n t : Nat) (J : Nat → Nat → Int32), t + n = 45 → 30 ≤ t → J 297 (256 * i + 23) = nI w → w ≤ 4 → (i11_unwaits_7 i p n t J L) 297 (256 * i + 5 * (w - 1) + 34) = 0 := by
  intro n
  induction n with
  | zero =>
    intro t J h1 h2 hw hw4
    simp only [i11_unwaits_7]
    rw [hw, nI_clamp (by omega)]
    exact uI_self _ _ _ _
  | succ n ih =>
    intro t J h1 h2 hw hw4
    simp only [i11_unwaits_7]
    exact ih (t + 1) _ (by omega) (by omega) (by rw [uI_ne _ _ _ (by omega)]; exact hw) hw4
theorem un_fl {p w : Nat} {J : Nat → Nat → Int32} (hp : p ≤ 3) (hw : J 297 (256 * i + 23) = nI w) (hw4 : w ≤ 4) : (i11_unwaits i p J L) 297 (256 * i + 5 * (w - 1) + 34) = 0 := by
  unfold i11_unwaits
  exact un7_fl _ _ J (by omega) (by omega) hw hw4
theorem un7_off {p b : Nat} (h : b < 256 * i + 23 ∨ b = 256 * i + 24 ∨ b = 256 * i + 25 ∨ b = 256 * i + 26 ∨ b = 256 * i + 27 ∨ 256 * i + 50 ≤ b) : ∀ (n t : Nat) (J : Nat → Nat → Int32), t + n = 45 → 30 ≤ t → (∃ w, w ≤ 4 ∧ J 297 (256 * i + 23) = nI w) → (i11_unwaits_7 i p n t J L) 297 b = J 297 b := by
  intro n
  induction n with
  | zero =>
    intro t J h1 h2 ⟨w, hw4, hw⟩
    simp only [i11_unwaits_7]
    rw [hw, nI_clamp (by omega), uI_ne _ _ _ (by omega), uI_ne _ _ _ (by omega)]
  | succ n ih =>
    intro t J h1 h2 ⟨w, hw4, hw⟩
    simp only [i11_unwaits_7]
    rw [ih (t + 1) _ (by omega) (by omega) ⟨w, hw4, by rw [uI_ne _ _ _ (by omega)]; exact hw⟩, uI_ne _ _ _ (by omega)]
theorem un_off {p w b : Nat} {J : Nat → Nat → Int32} (hp : p ≤ 3) (hw : J 297 (256 * i + 23) = nI w) (hw4 : w ≤ 4) (h : b < 256 * i + 23 ∨ b = 256 * i + 24 ∨ b = 256 * i + 25 ∨ b = 256 * i + 26 ∨ b = 256 * i + 27 ∨ 256 * i + 50 ≤ b) : (i11_unwaits i p J L) 297 b = J 297 b := by
  unfold i11_unwaits
  exact un7_off h _ _ J (by omega) (by omega) ⟨w, hw4, hw⟩
theorem un7_row {p a : Nat} (h : a ≠ 297) : ∀ (n t : Nat) (J : Nat → Nat → Int32), (i11_unwaits_7 i p n t J L) a = J a := by
  intro n
  induction n with
  | zero => intro t J; simp only [i11_unwaits_7, uI_off _ _ _ h]
  | succ n ih => intro t J; simp only [i11_unwaits_7]; rw [ih, uI_off _ _ _ h]
theorem un_row {p a : Nat} {J : Nat → Nat → Int32} (h : a ≠ 297) : (i11_unwaits i p J L) a = J a := by
  unfold i11_unwaits
  exact un7_row h _ _ _
end LS
