/-! received frames discarded, answers set and removed -/
section AN
variable {t k i : Nat} {C J C' J' : Nat → Nat → Int32} {D D' L : Nat → Nat → Int64} {nd x : Int32}
theorem NR.setA (h : NR t k i C D J) (hC : ∀ a b, a < k + 11 ∨ k + 14 < a → C' a b = C a b) (hJ : ∀ s x, x = 256 * i + s → s ≠ 25 → ¬ (74 ≤ s ∧ s < 86) → s < 256 → J' 297 x = J 297 x) (hA : AR k i C' J') : NR t k i C' D J' := by
  obtain ⟨⟨a1, a2, a3, a4, a5, a6, a7, a8, a9⟩, hp⟩ := h
  refine ⟨⟨?_, ?_, ?_, ?_, ?_, a6.congr (fun b _ => hC _ _ (by omega)) (fun b _ => hC _ _ (by omega)) (fun s x e g1 g2 => hJ s x e (by omega) (by omega) (by omega)), a7.congr (hC _ _ (by omega)) (fun b _ => hC _ _ (by omega)) (fun b _ => hC _ _ (by omega)) (fun b _ => hC _ _ (by omega)) (fun s x e g => hJ s x e (by unfold wJ at g; omega) (by unfold wJ at g; omega) (by unfold wJ at g; omega)), a8.congr (hC _ _ (by omega)) (fun b _ => hC _ _ (by omega)) (fun b _ => hC _ _ (by omega)) (fun b _ => hC _ _ (by omega)) (fun s x e g => hJ s x e (by omega) (by omega) (by omega)), hA⟩, hp.congr (fun b _ _ _ _ _ => hC _ _ (by omega)) (hC _ _ (by omega)) (fun b => hC _ _ (by omega)) (fun s x e g => hJ s x e (by unfold pS at g; omega) (by unfold pS at g; omega) (by unfold pS at g; omega))⟩
  · rw [hC k 9 (by omega), hJ 1 _ rfl (by omega) (by omega) (by omega)]; exact a1
  · rw [hC k 10 (by omega), hJ 4 _ rfl (by omega) (by omega) (by omega)]; exact a2
  · rw [hC k 11 (by omega), hJ 5 _ rfl (by omega) (by omega) (by omega)]; exact a3
  · rw [hC k 6 (by omega), hC k 7 (by omega), hJ 16 _ rfl (by omega) (by omega) (by omega), hJ 17 _ rfl (by omega) (by omega) (by omega)]; exact a4
  · rw [hC k 14 (by omega), hC k 15 (by omega)]; exact a5
theorem NR.setG (h : NR t k i C D J) (hC : ∀ a b, a < k + 7 ∨ k + 10 < a → C' a b = C a b) (hJ : ∀ s x, x = 256 * i + s → s ≠ 24 → ¬ (50 ≤ s ∧ s < 74) → s < 256 → J' 297 x = J 297 x) (hG : GR k i C' J') : NR t k i C' D J' := by
  obtain ⟨⟨a1, a2, a3, a4, a5, a6, a7, a8, a9⟩, hp⟩ := h
  refine ⟨⟨?_, ?_, ?_, ?_, ?_, a6.congr (fun b _ => hC _ _ (by omega)) (fun b _ => hC _ _ (by omega)) (fun s x e g1 g2 => hJ s x e (by omega) (by omega) (by omega)), a7.congr (hC _ _ (by omega)) (fun b _ => hC _ _ (by omega)) (fun b _ => hC _ _ (by omega)) (fun b _ => hC _ _ (by omega)) (fun s x e g => hJ s x e (by unfold wJ at g; omega) (by unfold wJ at g; omega) (by unfold wJ at g; omega)), hG, a9.congr (hC _ _ (by omega)) (fun b _ => hC _ _ (by omega)) (fun b _ => hC _ _ (by omega)) (fun b _ => hC _ _ (by omega)) (fun s x e g => hJ s x e (by omega) (by omega) (by omega))⟩, hp.congr (fun b _ _ _ _ _ => hC _ _ (by omega)) (hC _ _ (by omega)) (fun b => hC _ _ (by omega)) (fun s x e g => hJ s x e (by unfold pS at g; omega) (by unfold pS at g; omega) (by unfold pS at g; omega))⟩
  · rw [hC k 9 (by omega), hJ 1 _ rfl (by omega) (by omega) (by omega)]; exact a1
  · rw [hC k 10 (by omega), hJ 4 _ rfl (by omega) (by omega) (by omega)]; exact a2
  · rw [hC k 11 (by omega), hJ 5 _ rfl (by omega) (by omega) (by omega)]; exact a3
  · rw [hC k 6 (by omega), hC k 7 (by omega), hJ 16 _ rfl (by omega) (by omega) (by omega), hJ 17 _ rfl (by omega) (by omega) (by omega)]; exact a4
  · rw [hC k 14 (by omega), hC k 15 (by omega)]; exact a5
theorem rm21_s {c : Nat} {x : Int32} : ∀ (n p t : Nat) (C : Nat → Nat → Int32), (i3_removeAt_21 k c x n p t C D) k 3 = C k 3 := by
  intro n
  induction n with
  | zero => intro p t C; rfl
  | succ n ih => intro p t C; simp only [i3_removeAt_21]; rw [ih, uI_off _ _ _ (by omega), uI_off _ _ _ (by omega), uI_off _ _ _ (by omega)]
theorem rm_s {c p s : Nat} (hs : C k 3 = nI s) (hs8 : s ≤ 8) (hp : p < s) : (i3_removeAt k c (nI p) C D) k 3 = nI (s - 1) := by
  unfold i3_removeAt r3_has
  rw [hs, if_neg (c := nI p < 0 ∨ nI s ≤ nI p) (fun q => q.elim (nI_pos (by omega)) (nI_ge (by omega) (by omega))), if_pos rfl, rm21_s, uI_self, nI_clamp (by omega)]
  exact nI_sub (b := 1) (by omega)
/-! discard -/
theorem dc_get {nd : Int32} {ni q : Nat} : ∀ (n t : Nat) (J : Nat → Nat → Int32) (s : Nat), (i11_discard_48 nd n t ni q J L) 297 (256 * ni + s) = if t ≤ s ∧ s < t + n then J 297 (256 * ni + s + 4) else J 297 (256 * ni + s) := by
  intro n
  induction n with
  | zero => intro t J s; rw [if_neg (by omega)]; rfl
  | succ n ih =>
    intro t J s
    simp only [i11_discard_48]
    rw [ih]
    by_cases g : t + 1 ≤ s ∧ s < t + 1 + n
    · rw [if_pos g, if_pos (by omega), uI_ne _ _ _ (by omega)]
    · rw [if_neg g]
      by_cases e : s = t
      · subst e; rw [if_pos (by omega), uI_self]
      · rw [if_neg (by omega), uI_ne _ _ _ (by omega)]
theorem dc_off {nd : Int32} {ni q b : Nat} : ∀ (n t : Nat) (J : Nat → Nat → Int32), t + n ≤ 256 → (b < 256 * ni ∨ 256 * ni + 256 ≤ b) → (i11_discard_48 nd n t ni q J L) 297 b = J 297 b := by
  intro n
  induction n with
  | zero => intro t J _ _; rfl
  | succ n ih => intro t J h1 h2; simp only [i11_discard_48]; rw [ih _ _ (by omega) h2, uI_ne _ _ _ (by omega)]
theorem dc_row {nd : Int32} {ni q a : Nat} (ha : a ≠ 297) : ∀ (n t : Nat) (J : Nat → Nat → Int32), (i11_discard_48 nd n t ni q J L) a = J a := by
  intro n
  induction n with
  | zero => intro t J; rfl
  | succ n ih => intro t J; simp only [i11_discard_48]; rw [ih, uI_off _ _ _ ha]
theorem dc_r {nd : Int32} {ni q : Nat} : ∀ (n t : Nat) (J : Nat → Nat → Int32), r11_discard_48 nd n t ni q J L = (i11_discard_48 nd n t ni q J L) 297 (256 * ni + 24) := by
  intro n
  induction n with
  | zero => intro t J; rfl
  | succ n ih => intro t J; simp only [i11_discard_48, r11_discard_48]; exact ih _ _
theorem K_discard (h : BR t 1 C D J) : ST t C D J (i10_discard nd C D) D (i11_discard nd J L) ∧ r10_discard nd C D = r11_discard nd J L := by
  unfold i10_discard i11_discard r10_discard r11_discard
  show ST t C D J (if r10_isNode nd = true then _ else _) D (if r10_isNode nd = true then _ else _) ∧ (if r10_isNode nd = true then _ else _) = (if r10_isNode nd = true then _ else _)
  by_cases hn : r10_isNode nd = true
  · obtain ⟨i, hi, e, hN⟩ := h.n hn
    rw [if_pos hn, if_pos hn, if_pos hn, if_pos hn, e]
    obtain ⟨r, r1, r2, r3, r4⟩ := hN.1.2.2.2.2.2.2.2.1
    rw [r2, r3, nI_clamp (by omega)]
    by_cases g : r = 0
    · subst g
      have z0 : nI 0 = 0 := rfl
      rw [if_pos z0, if_pos z0, if_pos z0, if_pos z0]; exact ⟨ST.rf h, rfl⟩
    · have n0 : ¬ nI r = 0 := nI_ne0 (by omega) (by omega)
      rw [if_neg n0, if_neg n0, if_neg n0, if_neg n0, dc_r]
      have e24 : (i11_discard_48 nd (4 * (r - 1)) 50 i (r - 1) (uI J 297 (256 * i + 24) (nI (r - 1))) L) 297 (256 * i + 24) = nI (r - 1) := by rw [dc_get, if_neg (by omega), uI_self]
      refine ⟨h.set hi (hN.setG (fun a b g => ?_) (fun s x e g1 g2 g3 => ?_) ⟨r - 1, by omega, rm_s (p := 0) r2 (by omega) (by omega), e24, fun j hj => ?_⟩) (fun a g => x3_removeAt (by omega) (by omega) (by omega) (by omega)) (fun _ _ => rfl) ⟨fun a ha => by rw [dc_row ha, uI_off _ _ _ ha], fun b hb => by rw [dc_off _ _ _ (by omega) hb, uI_ne _ _ _ (by omega)]⟩, ?_⟩
      · rw [x3_removeAt (by omega) (by omega) (by omega) (by omega)]
      · subst e; rw [dc_get, if_neg (by omega), uI_ne _ _ _ (by omega)]
      · have c8 : (i3_removeAt (4 + 16 * i + 7) 6 (nI 0) C D) (4 + 16 * i + 8) j = C (4 + 16 * i + 8) (j + 1) := (rm_1 (k := 4 + 16 * i + 7) r2 (by omega) (by omega)).trans (if_pos (by omega))
        have c9 : (i3_removeAt (4 + 16 * i + 7) 6 (nI 0) C D) (4 + 16 * i + 9) j = C (4 + 16 * i + 9) (j + 1) := (rm_2 (k := 4 + 16 * i + 7) r2 (by omega) (by omega)).trans (if_pos (by omega))
        have c10 : (i3_removeAt (4 + 16 * i + 7) 6 (nI 0) C D) (4 + 16 * i + 10) j = C (4 + 16 * i + 10) (j + 1) := (rm_3 (k := 4 + 16 * i + 7) r2 (by omega) (by omega)).trans (if_pos (by omega))
        have jj : ∀ c, c < 4 → (i11_discard_48 nd (4 * (r - 1)) 50 i (r - 1) (uI J 297 (256 * i + 24) (nI (r - 1))) L) 297 (256 * i + 4 * j + (50 + c)) = J 297 (256 * i + 4 * (j + 1) + (50 + c)) := fun c hc => by
          rw [show 256 * i + 4 * j + (50 + c) = 256 * i + (4 * j + 50 + c) by omega, dc_get, if_pos (by omega), uI_ne _ _ _ (by omega), show 256 * i + (4 * j + 50 + c) + 4 = 256 * i + 4 * (j + 1) + (50 + c) by omega]
        have q := r4 (j + 1) (by omega)
        refine ⟨c8.trans (q.1.trans ?_), c9.trans (q.2.1.trans (jj 2 (by omega)).symm), c10.trans (q.2.2.trans (jj 3 (by omega)).symm)⟩
        rw [show (256 * i + 4 * j + 50 : Nat) = 256 * i + 4 * j + (50 + 0) from rfl, show (256 * i + 4 * j + 51 : Nat) = 256 * i + 4 * j + (50 + 1) from rfl, jj 0 (by omega), jj 1 (by omega)]
      · rw [e24]; exact rm_s (p := 0) r2 (by omega) (by omega)
  · rw [if_neg hn, if_neg hn, if_neg hn, if_neg hn]; exact ⟨ST.rf h, rfl⟩
/-! lists -/
def gP {α : Type} (p : Nat) (f : Nat → α) : Nat → α := fun j => if p ≤ j then f (j + 1) else f j
theorem L_rm {α : Type} (f : Nat → α) : ∀ a p, p < a → ((List.range a).map f).Perm (f p :: (List.range (a - 1)).map (gP p f)) := by
  intro a
  induction a with
  | zero => intro p h; omega
  | succ b ih =>
    intro p h
    rw [List.range_succ, List.map_append]
    by_cases e : p = b
    · subst e
      have e1 : (List.range p).map f = (List.range (p + 1 - 1)).map (gP p f) := by
        apply List.map_congr_left
        intro j hj
        rw [List.mem_range] at hj
        unfold gP
        rw [if_neg (by omega)]
      rw [← e1]
      exact List.perm_append_comm
    · have hb : p < b := by omega
      have e1 : (List.range (b + 1 - 1)).map (gP p f) = (List.range (b - 1)).map (gP p f) ++ [f b] := by
        have : b + 1 - 1 = (b - 1) + 1 := by omega
        rw [this, List.range_succ, List.map_append]
        congr 1
        show [gP p f (b - 1)] = [f b]
        unfold gP
        rw [if_pos (by omega), show b - 1 + 1 = b by omega]
      rw [e1]
      exact (ih p hb).append_right _
theorem L_set {α : Type} (f : Nat → α) (y : α) {a q : Nat} (h : q < a) : ((List.range a).map (fun j => if j = q then y else f j)).Perm (y :: (List.range (a - 1)).map (gP q f)) := by
  have h1 := L_rm (fun j => if j = q then y else f j) a q h
  have e : (List.range (a - 1)).map (gP q (fun j => if j = q then y else f j)) = (List.range (a - 1)).map (gP q f) := by
    apply List.map_congr_left
    intro j hj
    unfold gP
    by_cases g : q ≤ j
    · rw [if_pos g, if_pos g]; exact if_neg (by omega)
    · rw [if_neg g, if_neg g]; exact if_neg (by omega)
  rw [e] at h1
  rw [if_pos rfl] at h1
  exact h1
/-! the answers -/
def fA (k : Nat) (C : Nat → Nat → Int32) (j : Nat) : Int32 × Int32 × Int32 := (C (k + 12) j, C (k + 13) j, C (k + 14) j)
def fR (i : Nat) (J : Nat → Nat → Int32) (j : Nat) : Int32 × Int32 × Int32 := ((2 : Int32) * J 297 (256 * i + 3 * j + 74), J 297 (256 * i + 3 * j + 75), J 297 (256 * i + 3 * j + 76))
theorem rmA_get {nd idn : Int32} {ni q : Nat} : ∀ (n t : Nat) (J : Nat → Nat → Int32) (s : Nat), (i11_removeAnswer_46 nd idn n t ni q J L) 297 (256 * ni + s) = if t ≤ s ∧ s < t + n then J 297 (256 * ni + s + 3) else J 297 (256 * ni + s) := by
  intro n
  induction n with
  | zero => intro t J s; rw [if_neg (by omega)]; rfl
  | succ n ih =>
    intro t J s
    simp only [i11_removeAnswer_46]
    rw [ih]
    by_cases g : t + 1 ≤ s ∧ s < t + 1 + n
    · rw [if_pos g, if_pos (by omega), uI_ne _ _ _ (by omega)]
    · rw [if_neg g]
      by_cases e : s = t
      · subst e; rw [if_pos (by omega), uI_self]
      · rw [if_neg (by omega), uI_ne _ _ _ (by omega)]
theorem rmA_off {nd idn : Int32} {ni q b : Nat} : ∀ (n t : Nat) (J : Nat → Nat → Int32), t + n ≤ 256 → (b < 256 * ni ∨ 256 * ni + 256 ≤ b) → (i11_removeAnswer_46 nd idn n t ni q J L) 297 b = J 297 b := by
  intro n
  induction n with
  | zero => intro t J _ _; rfl
  | succ n ih => intro t J h1 h2; simp only [i11_removeAnswer_46]; rw [ih _ _ (by omega) h2, uI_ne _ _ _ (by omega)]
theorem rmA_row {nd idn : Int32} {ni q a : Nat} (ha : a ≠ 297) : ∀ (n t : Nat) (J : Nat → Nat → Int32), (i11_removeAnswer_46 nd idn n t ni q J L) a = J a := by
  intro n
  induction n with
  | zero => intro t J; rfl
  | succ n ih => intro t J; simp only [i11_removeAnswer_46]; rw [ih, uI_off _ _ _ ha]
theorem rmA_r {nd idn : Int32} {ni q : Nat} : ∀ (n t : Nat) (J : Nat → Nat → Int32), r11_removeAnswer_46 nd idn n t ni q J L = (i11_removeAnswer_46 nd idn n t ni q J L) 297 (256 * ni + 25) := by
  intro n
  induction n with
  | zero => intro t J; rfl
  | succ n ih => intro t J; simp only [i11_removeAnswer_46, r11_removeAnswer_46]; exact ih _ _
theorem cA_rm {a p : Nat} (ha : a ≤ 4) (hs : C (k + 11) 3 = nI a) (hp : p < a) : cA k (i3_removeAt (k + 11) 4 (nI p) C D) (a - 1) = (List.range (a - 1)).map (gP p (fA k C)) := by
  unfold cA
  apply List.map_congr_left
  intro j hj
  rw [List.mem_range] at hj
  have c1 := rm_1 (c := 4) (D := D) (j := j) (k := k + 11) hs (by omega) hp
  have c2 := rm_2 (c := 4) (D := D) (j := j) (k := k + 11) hs (by omega) hp
  have c3 := rm_3 (c := 4) (D := D) (j := j) (k := k + 11) hs (by omega) hp
  unfold gP fA
  by_cases g : p ≤ j
  · rw [if_pos ⟨g, hj⟩] at c1 c2 c3
    rw [if_pos g]
    exact congr (congrArg Prod.mk c1) (congr (congrArg Prod.mk c2) c3)
  · rw [if_neg (fun q => g q.1)] at c1 c2 c3
    rw [if_neg g]
    exact congr (congrArg Prod.mk c1) (congr (congrArg Prod.mk c2) c3)
theorem A_same {p q idn ln : Nat} (h1 : J 297 (256 * i + 3 * q + 74) = nI idn) (h2 : C (k + 12) p = nI (2 * idn)) (h3 : C (k + 13) p = nI ln) (h4 : J 297 (256 * i + 3 * q + 75) = nI ln) (h5 : C (k + 14) p = J 297 (256 * i + 3 * q + 76)) : fA k C p = fR i J q := by
  unfold fA fR
  rw [h1, h2, h3, h4, h5, show (2 : Int32) * nI idn = nI (2 * idn) from pk_mul 2 idn]
theorem within_of {i : Nat} (h : i ≤ 2047) : r10_isIdentifier (nI i) = true := by
  unfold r10_isIdentifier r10_isWithin
  rw [if_neg (c := nI i < 0 ∨ 2047 < nI i) (fun q => q.elim (nI_pos (by omega)) (nI_nlt (a := 2047) (b := i) (by omega) (by omega)))]
theorem K_removeAnswer (h : BR t 1 C D J) : ST t C D J (i10_removeAnswer nd x C D) D (i11_removeAnswer nd x J L) ∧ r10_removeAnswer nd x C D = r11_removeAnswer nd x J L := by
  unfold i10_removeAnswer i11_removeAnswer r10_removeAnswer r11_removeAnswer
  show ST t C D J (if r10_isNode nd = true then _ else _) D (if r10_isNode nd = true then _ else _) ∧ (if r10_isNode nd = true then _ else _) = (if r10_isNode nd = true then _ else _)
  by_cases hn : r10_isNode nd = true
  · obtain ⟨i, hi, e, hN⟩ := h.n hn
    rw [if_pos hn, if_pos hn, if_pos hn, if_pos hn, e]
    by_cases g : r10_isIdentifier x = true
    · rw [if_pos g]
      obtain ⟨idn, i1, -, rfl⟩ := within_nat (a := 0) (b := 2047) (by decide) (by decide) g
      have ek : r10_keyOf (nI idn) 0 = nI (2 * idn) := keyO
      rw [ek]
      obtain ⟨a, a1, a2, a3, ⟨b1, b2⟩ | ⟨p, q, ln, b1, b2, b3, b4, b5, b6, b7, b8, b9, b10, b11⟩⟩ := ans_look (D := D) (L := L) i1 hN.1.2.2.2.2.2.2.2.2
      · rw [b1, b2]
        exact ⟨ST.rf h, rfl⟩
      · have p0 : (0 : Int32) ≤ nI p := nI_pos' (by omega)
        have q0 : (0 : Int32) ≤ nI q := nI_pos' (by omega)
        rw [b4, b5, if_pos p0, if_pos q0, if_pos p0, if_pos q0, a3, nI_clamp (n := a) (by omega), nI_clamp (n := q) (by omega), rmA_r]
        obtain ⟨J1, hJ1⟩ : ∃ J1, J1 = i11_removeAnswer_46 nd (nI idn) (3 * (a - 1 - q)) (3 * q + 74) i (a - 1) (uI J 297 (256 * i + 25) (nI (a - 1))) L := ⟨_, rfl⟩
        rw [← hJ1]
        have jg : ∀ s, s ≠ 25 → J1 297 (256 * i + s) = if 3 * q + 74 ≤ s ∧ s < 3 * q + 74 + 3 * (a - 1 - q) then J 297 (256 * i + s + 3) else J 297 (256 * i + s) := fun s hs => by
          rw [hJ1, rmA_get]
          by_cases g : 3 * q + 74 ≤ s ∧ s < 3 * q + 74 + 3 * (a - 1 - q)
          · rw [if_pos g, if_pos g, uI_ne _ _ _ (by omega)]
          · rw [if_neg g, if_neg g, uI_ne _ _ _ (by omega)]
        have e25 : J1 297 (256 * i + 25) = nI (a - 1) := by rw [hJ1, rmA_get, if_neg (by omega), uI_self]
        have jj : ∀ j c, c < 3 → j < a - 1 → J1 297 (256 * i + 3 * j + (74 + c)) = if q ≤ j then J 297 (256 * i + 3 * (j + 1) + (74 + c)) else J 297 (256 * i + 3 * j + (74 + c)) := fun j c hc hj => by
          rw [show 256 * i + 3 * j + (74 + c) = 256 * i + (3 * j + 74 + c) by omega, jg _ (by omega)]
          by_cases g : q ≤ j
          · rw [if_pos g, if_pos (by omega), show 256 * i + (3 * j + 74 + c) + 3 = 256 * i + 3 * (j + 1) + (74 + c) by omega]
          · rw [if_neg g, if_neg (by omega)]
        obtain ⟨a', w1, w2, -, w4, w5, w6⟩ := hN.1.2.2.2.2.2.2.2.2
        have ea : a' = a := (nI_eq (by omega) (by omega)).mp (w2.symm.trans a2)
        subst ea
        have rR : rA i J1 (a' - 1) = (List.range (a' - 1)).map (gP q (fR i J)) := by
          unfold rA
          apply List.map_congr_left
          intro j hj
          rw [List.mem_range] at hj
          have j0 := jj j 0 (by omega) hj
          have j1 := jj j 1 (by omega) hj
          have j2 := jj j 2 (by omega) hj
          show ((2 : Int32) * J1 297 (256 * i + 3 * j + (74 + 0)), J1 297 (256 * i + 3 * j + (74 + 1)), J1 297 (256 * i + 3 * j + (74 + 2))) = _
          rw [j0, j1, j2]
          unfold gP fR
          by_cases g : q ≤ j
          · simp only [if_pos g]
          · simp only [if_neg g]
        have pm : (cA (4 + 16 * i) (i3_removeAt (4 + 16 * i + 11) 4 (nI p) C D) (a' - 1)).Perm (rA i J1 (a' - 1)) := by
          rw [cA_rm a1 a2 b1, rR]
          have y1 := L_rm (fA (4 + 16 * i) C) a' p b1
          have y2 := L_rm (fR i J) a' q b2
          have y3 : fA (4 + 16 * i) C p = fR i J q := A_same b6 b7 b8 b9 b10
          rw [y3] at y1
          exact (List.perm_cons _).mp (y1.symm.trans (w4.trans y2))
        refine ⟨h.set hi (hN.setA (fun a b g => ?_) (fun s x e g1 g2 g3 => ?_) ⟨a' - 1, by omega, rm_s a2 (by omega) b1, e25, pm, fun j hj => ?_, fun j j' hj hj' ee => ?_⟩) (fun a g => x3_removeAt (by omega) (by omega) (by omega) (by omega)) (fun _ _ => rfl) ⟨fun a ha => by rw [hJ1, rmA_row ha, uI_off _ _ _ ha], fun b hb => by rw [hJ1, rmA_off _ _ _ (by omega) hb, uI_ne _ _ _ (by omega)]⟩, ?_⟩
        · rw [x3_removeAt (by omega) (by omega) (by omega) (by omega)]
        · subst e; rw [jg _ g1, if_neg (by omega)]
        · have j0 := jj j 0 (by omega) hj
          have j1 := jj j 1 (by omega) hj
          have j2 := jj j 2 (by omega) hj
          have j0 : J1 297 (256 * i + 3 * j + 74) = _ := j0
          have j1 : J1 297 (256 * i + 3 * j + 75) = _ := j1
          have j2 : J1 297 (256 * i + 3 * j + 76) = _ := j2
          rw [j0, j1, j2]
          by_cases g : q ≤ j
          · rw [if_pos g, if_pos g, if_pos g]; exact w5 (j + 1) (by omega)
          · rw [if_neg g, if_neg g, if_neg g]; exact w5 j (by omega)
        · have j0 : J1 297 (256 * i + 3 * j + 74) = _ := jj j 0 (by omega) hj
          have j1 : J1 297 (256 * i + 3 * j' + 74) = _ := jj j' 0 (by omega) hj'
          rw [j0, j1] at ee
          by_cases g : q ≤ j
          · by_cases g' : q ≤ j'
            · rw [if_pos g, if_pos g'] at ee; have := w6 _ _ (by omega) (by omega) ee; omega
            · rw [if_pos g, if_neg g'] at ee; have := w6 _ _ (by omega) (by omega) ee; omega
          · by_cases g' : q ≤ j'
            · rw [if_neg g, if_pos g'] at ee; have := w6 _ _ (by omega) (by omega) ee; omega
            · rw [if_neg g, if_neg g'] at ee; exact w6 _ _ (by omega) (by omega) ee
        · rw [e25]; exact rm_s a2 (by omega) b1
    · rw [if_neg g]
      have nf : r11_answerFor i x J L = (-1) := by
        obtain ⟨a, a1, a2, a3, a4, a5, -⟩ := hN.1.2.2.2.2.2.2.2.2
        unfold r11_answerFor
        rcases af_spec (i := i) (J := J) (L := L) (idn := x) ((J 297 (256 * i + 25)).toNatClampNeg) 0 with ⟨q1, -⟩ | ⟨p, -, p2, -, p4⟩
        · exact q1
        · exfalso
          rw [a3, nI_clamp (by omega)] at p2
          obtain ⟨idn, ln, b1, -, b3, -⟩ := a5 p (by omega)
          apply g
          rw [← p4, b3]
          exact within_of b1
      rw [nf]
      exact ⟨ST.rf h, rfl⟩
  · rw [if_neg hn, if_neg hn, if_neg hn, if_neg hn]; exact ⟨ST.rf h, rfl⟩
end AN
