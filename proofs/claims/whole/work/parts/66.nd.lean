/-! calls that change one node, the limits or the disturbances -/
section ND
variable {t : Nat} {C J C' J' : Nat → Nat → Int32} {D D' L : Nat → Nat → Int64} {nd x : Int32}
/-- beside each other again; the rest stays -/
def ST (t : Nat) (C : Nat → Nat → Int32) (D : Nat → Nat → Int64) (J C' : Nat → Nat → Int32) (D' : Nat → Nat → Int64) (J' : Nat → Nat → Int32) : Prop := BR t 1 C' D' J' ∧ (∀ a, a < 1 ∨ 71 < a → C' a = C a) ∧ (∀ a, a < 1 ∨ 71 < a → D' a = D a) ∧ ∀ a, a ≠ 297 → J' a = J a
theorem ST.rf (h : BR t 1 C D J) : ST t C D J C D J := ⟨h, fun _ _ => rfl, fun _ _ => rfl, fun _ _ => rfl⟩
theorem BR.set {i : Nat} (hi : i < 4) (h : BR t 1 C D J) (hn : NR t (4 + 16 * i) i C' D' J') (hC : ∀ a, a < 4 + 16 * i ∨ 4 + 16 * i + 15 < a → C' a = C a) (hD : ∀ a, a < 4 + 16 * i ∨ 4 + 16 * i + 15 < a → D' a = D a) (hJ : oF i J J') : ST t C D J C' D' J' := by
  refine ⟨?_, fun a g => hC a (by omega), fun a g => hD a (by omega), hJ.1⟩
  have hJ := hJ.2
  obtain ⟨h4, h1, hL, hN, hDl, hV⟩ := h
  refine ⟨by rw [hC _ (by omega)]; exact h4, (hJ _ (by omega)).trans h1, hL.congr (hC _ (by omega)) (fun x _ _ => hJ _ (by omega)), fun j hj => ?_, hDl.congr (by rw [hC _ (by omega)]) (fun _ _ => by rw [hC _ (by omega)]) (fun _ _ => by rw [hC _ (by omega)]) (fun x _ _ => hJ _ (by omega)), fun j hj => by rw [hC _ (by omega), hJ _ (by omega)]; exact hV j hj⟩
  by_cases e : j = i
  · subst e; exact hn
  · exact (hN j hj).congr (fun a b _ _ _ => by rw [hC _ (by omega)]) (by rw [hD _ (by omega)]) (by rw [hD _ (by omega)]) (fun s x e' _ _ => hJ _ (by omega))
/-! limits -/
theorem E_setLimits {a b c : Int32} (h : BR t 1 C D J) : r10_setLimits a b c C D = r11_setLimits a b c J L := by
  obtain ⟨p, o, r, -, -, -, -, -, -, e1, e2, -⟩ := h.2.2.1
  show (if _ then _ else C 2 0) = (if _ then _ else J 297 1025)
  rw [e2, show C 2 0 = nI p from e1]
  rfl
theorem K_setLimits {a b c : Int32} (h : BR t 1 C D J) : ST t C D J (i10_setLimits a b c C D) D (i11_setLimits a b c J L) := by
  unfold i10_setLimits i11_setLimits
  show ST t C D J (if _ then _ else _) D (if (¬ ((r10_isWithin a 8 128) = true)) ∨ ((¬ ((r10_isWithin b 16 256) = true)) ∨ ((b ≤ a) ∨ (¬ ((r10_isWithin c 1 16) = true)))) then _ else _)
  by_cases g : (¬ ((r10_isWithin a 8 128) = true)) ∨ ((¬ ((r10_isWithin b 16 256) = true)) ∨ ((b ≤ a) ∨ (¬ ((r10_isWithin c 1 16) = true))))
  · rw [if_pos g, if_pos g]; exact ST.rf h
  · rw [if_neg g, if_neg g]
    have ga : r10_isWithin a 8 128 = true := Classical.byContradiction fun q => g (Or.inl q)
    have gb : r10_isWithin b 16 256 = true := Classical.byContradiction fun q => g (Or.inr (Or.inl q))
    have gl : ¬ b ≤ a := fun q => g (Or.inr (Or.inr (Or.inl q)))
    have gc : r10_isWithin c 1 16 = true := Classical.byContradiction fun q => g (Or.inr (Or.inr (Or.inr q)))
    obtain ⟨p, p1, p2, rfl⟩ := within_nat (a := 8) (b := 128) (by decide) (by decide) ga
    obtain ⟨o, o1, o2, rfl⟩ := within_nat (a := 16) (b := 256) (by decide) (by decide) gb
    obtain ⟨r, r1, r2, rfl⟩ := within_nat (a := 1) (b := 16) (by decide) (by decide) gc
    have po : p < o := Classical.byContradiction fun q => gl (nI_le (by omega) (by omega))
    obtain ⟨h4, h1, -, hN, hDl, hV⟩ := h
    have hC : ∀ a, a ≠ 2 → (uI (uI (uI C 2 0 (nI p)) 2 1 (nI o)) 2 2 (nI r)) a = C a := fun a ha => by rw [uI_off _ _ _ ha, uI_off _ _ _ ha, uI_off _ _ _ ha]
    have hJ : ∀ y, y ≠ 1025 → y ≠ 1026 → y ≠ 1027 → (uI (uI (uI J 297 1025 (nI p)) 297 1026 (nI o)) 297 1027 (nI r)) 297 y = J 297 y := fun y g1 g2 g3 => by rw [uI_ne _ _ _ g3, uI_ne _ _ _ g2, uI_ne _ _ _ g1]
    refine ⟨⟨?_, ?_, ⟨p, o, r, p2, p1, po, o1, r2, r1, rfl, rfl, rfl, rfl, rfl, rfl⟩, fun j hj => (hN j hj).congr (fun a b _ _ _ => by rw [hC _ (by omega)]) rfl rfl (fun s x e' _ _ => hJ _ (by omega) (by omega) (by omega)), hDl.congr (by rw [hC _ (by omega)]) (fun _ _ => by rw [hC _ (by omega)]) (fun _ _ => by rw [hC _ (by omega)]) (fun x _ _ => hJ _ (by omega) (by omega) (by omega)), fun j hj => by rw [hC _ (by omega), hJ _ (by omega) (by omega) (by omega)]; exact hV j hj⟩, fun a g => hC a (by omega), fun _ _ => rfl, fun a g => ?_⟩
    · rw [hC _ (by omega)]; exact h4
    · rw [hJ _ (by omega) (by omega) (by omega)]; exact h1
    · rw [uI_off _ _ _ g, uI_off _ _ _ g, uI_off _ _ _ g]
/-! the filter -/
theorem NR.flt {k i : Nat} {a b : Int32} (h : NR t k i C D J) : NR t k i (uI (uI C k 6 a) k 7 b) D (uI (uI J 297 (256 * i + 16) a) 297 (256 * i + 17) b) := by
  obtain ⟨⟨a1, a2, a3, a4, a5, a6, a7, a8, a9⟩, hp⟩ := h
  have hC : ∀ y z, ¬ (y = k ∧ (z = 6 ∨ z = 7)) → (uI (uI C k 6 a) k 7 b) y z = C y z := fun y z g => by rw [uI_eq, if_neg (by omega), uI_eq, if_neg (by omega)]
  have hJ : ∀ s y, y = 256 * i + s → s ≠ 16 → s ≠ 17 → (uI (uI J 297 (256 * i + 16) a) 297 (256 * i + 17) b) 297 y = J 297 y := fun s y e g1 g2 => by rw [uI_ne _ _ _ (by omega), uI_ne _ _ _ (by omega)]
  refine ⟨⟨?_, ?_, ?_, ⟨?_, ?_⟩, ?_, a6.congr (fun b _ => hC _ _ (by omega)) (fun b _ => hC _ _ (by omega)) (fun s y e g1 g2 => hJ s y e (by omega) (by omega)), a7.congr (hC _ _ (by omega)) (fun b _ => hC _ _ (by omega)) (fun b _ => hC _ _ (by omega)) (fun b _ => hC _ _ (by omega)) (fun s y e g => hJ s y e (by unfold wJ at g; omega) (by unfold wJ at g; omega)), a8.congr (hC _ _ (by omega)) (fun b _ => hC _ _ (by omega)) (fun b _ => hC _ _ (by omega)) (fun b _ => hC _ _ (by omega)) (fun s y e g => hJ s y e (by omega) (by omega)), a9.congr (hC _ _ (by omega)) (fun b _ => hC _ _ (by omega)) (fun b _ => hC _ _ (by omega)) (fun b _ => hC _ _ (by omega)) (fun s y e g => hJ s y e (by omega) (by omega))⟩, hp.congr (fun b _ _ _ g1 g2 => hC _ _ (by omega)) (hC _ _ (by omega)) (fun b => hC _ _ (by omega)) (fun s x e g => hJ s x e (by unfold pS at g; omega) (by unfold pS at g; omega))⟩
  · rw [hC k 9 (by omega), hJ 1 _ rfl (by omega) (by omega)]; exact a1
  · rw [hC k 10 (by omega), hJ 4 _ rfl (by omega) (by omega)]; exact a2
  · rw [hC k 11 (by omega), hJ 5 _ rfl (by omega) (by omega)]; exact a3
  · rw [uI_ne _ _ _ (show 6 ≠ 7 by decide), uI_self, uI_ne _ _ _ (show 256 * i + 16 ≠ 256 * i + 17 by omega), uI_self]
  · rw [uI_self, uI_self]
  · rw [hC k 14 (by omega), hC k 15 (by omega)]; exact a5
theorem E_setFilter {a b : Int32} (h : BR t 1 C D J) : r10_setFilter nd a b C D = r11_setFilter nd a b J L := by
  unfold r10_setFilter r11_setFilter
  show (if r10_isNode nd = true then _ else _) = (if r10_isNode nd = true then _ else _)
  by_cases hn : r10_isNode nd = true
  · obtain ⟨i, hi, e, hN⟩ := h.n hn
    rw [if_pos hn, if_pos hn, e, hN.1.2.2.2.1.1]
    rfl
  · rw [if_neg hn, if_neg hn]
theorem K_setFilter {a b : Int32} (h : BR t 1 C D J) : ST t C D J (i10_setFilter nd a b C D) D (i11_setFilter nd a b J L) := by
  unfold i10_setFilter i11_setFilter
  show ST t C D J (if _ then _ else _) D (if r10_isNode nd = true then (if (¬ ((r10_isIdentifier a) = true)) ∨ (¬ ((r10_isIdentifier b) = true)) then _ else _) else _)
  by_cases hn : r10_isNode nd = true
  · obtain ⟨i, hi, e, hN⟩ := h.n hn
    rw [if_pos hn, if_pos hn, e]
    by_cases g : (¬ ((r10_isIdentifier a) = true)) ∨ (¬ ((r10_isIdentifier b) = true))
    · rw [if_pos g, if_pos g]; exact ST.rf h
    · rw [if_neg g, if_neg g]
      exact h.set hi hN.flt (fun a g => by rw [uI_off _ _ _ (by omega), uI_off _ _ _ (by omega)]) (fun _ _ => rfl) (((oF.rf i J).u (by omega) (by omega)).u (by omega) (by omega))
  · rw [if_neg hn, if_neg hn]; exact ST.rf h
/-! to detach and attach -/
theorem E_detach (h : BR t 1 C D J) : r10_detach nd C D = r11_detach nd J L := by
  unfold r10_detach r11_detach
  show (if r10_isNode nd = true then _ else _) = (if r10_isNode nd = true then _ else _)
  by_cases hn : r10_isNode nd = true
  · obtain ⟨i, hi, e, hN⟩ := h.n hn
    rw [if_pos hn, if_pos hn, e, hN.2.1]
  · rw [if_neg hn, if_neg hn]
theorem K_detach (h : BR t 1 C D J) : ST t C D J (i10_detach nd C D) D (i11_detach nd J L) := by
  unfold i10_detach i11_detach
  show ST t C D J (if _ then _ else _) D (if r10_isNode nd = true then _ else _)
  by_cases hn : r10_isNode nd = true
  · obtain ⟨i, hi, e, hN⟩ := h.n hn
    rw [if_pos hn, if_pos hn, e, hN.2.1]
    by_cases g : J 297 (256 * i) = 0
    · rw [if_pos g, if_pos g]; exact ST.rf h
    · rw [if_neg g, if_neg g]
      exact h.set hi (NR.enter (l := 2) hN.1 (by decide) (by decide) (by decide)) (fun a g => x6_enter (by omega) (by omega)) (fun _ _ => rfl) oF.go
  · rw [if_neg hn, if_neg hn]; exact ST.rf h
theorem K_attach (h : BR t 1 C D J) : ST t C D J (i10_attach nd C D) D (i11_attach nd J L) := by
  unfold i10_attach i11_attach
  show ST t C D J (if _ then _ else _) D (if r10_isNode nd = true then _ else _)
  by_cases hn : r10_isNode nd = true
  · obtain ⟨i, hi, e, hN⟩ := h.n hn
    rw [if_pos hn, if_pos hn, e, hN.2.1]
    by_cases g : J 297 (256 * i) = 0
    · rw [if_pos g, if_pos g]
      exact h.set hi (NR.enter (l := 2) hN.1 (by decide) (by decide) (by decide)) (fun a g => x6_enter (by omega) (by omega)) (fun _ _ => rfl) oF.go
    · rw [if_neg g, if_neg g]; exact ST.rf h
  · rw [if_neg hn, if_neg hn]; exact ST.rf h
theorem cnt_eq (h : BR t 1 C D J) : r0_countAttached 1 C D = r11_attach_35 nd 4 0 0 J L := by
  unfold r0_countAttached
  have key : ∀ n i z, i + n = 4 → r0_countAttached_4 1 n i z C D = r11_attach_35 nd n i z J L := by
    intro n
    induction n with
    | zero => intro i z _; rfl
    | succ n ih =>
      intro i z hi
      simp only [r0_countAttached_4, r11_attach_35]
      rw [(h.2.2.2.1 i (by omega)).2.1, ih _ _ (by omega)]
      by_cases g : J 297 (256 * i) = 0
      · rw [if_pos g, if_pos g]
        show _ = r11_attach_35 nd n (i + 1) (z + 0) J L
        rw [Int32.add_zero]
      · rw [if_neg g, if_neg g]
        rfl
  exact key 4 0 0 (by omega)
theorem E_attach (h : BR t 1 C D J) : r10_attach nd C D = r11_attach nd J L := by
  have k := K_attach (L := L) (nd := nd) h
  unfold r10_attach r11_attach
  unfold i10_attach i11_attach at k
  have k := k.1
  revert k
  show BR t 1 (if r10_isNode nd = true then _ else _) D (if r10_isNode nd = true then _ else _) → (if r10_isNode nd = true then _ else _) = (if r10_isNode nd = true then _ else _)
  by_cases hn : r10_isNode nd = true
  · obtain ⟨i, hi, e, hN⟩ := h.n hn
    rw [if_pos hn, if_pos hn, if_pos hn, if_pos hn, e, hN.2.1]
    by_cases g : J 297 (256 * i) = 0
    · rw [if_pos g, if_pos g, if_pos g, if_pos g]
      intro k
      exact cnt_eq k
    · rw [if_neg g, if_neg g]; intro _; rw [if_neg g, if_neg g]
  · intro _; rw [if_neg hn, if_neg hn]
/-! requests -/
def rmN (rm : Int32) : Nat := if rm = 0 then 0 else 1
theorem rmN_le (rm : Int32) : rmN rm ≤ 1 := by unfold rmN; split <;> omega
theorem isF_eq {idn rm ln dt : Int32} : r10_isFrame idn rm ln dt = r11_isFrame idn rm ln dt := by
  unfold r10_isFrame r11_isFrame
  show (if (¬ (r10_isIdentifier idn = true)) ∨ ((¬ (r10_isLength ln = true)) ∨ ((¬ (rm = 0)) ∧ (¬ (dt = 0)))) then _ else _) = (if (¬ ((if (¬ (r10_isIdentifier idn = true)) ∨ ((¬ (r10_isLength ln = true)) ∨ ((¬ (rm = 0)) ∧ (¬ (dt = 0)))) then false else true) = true)) ∨ _ then false else true)
  by_cases g : (¬ (r10_isIdentifier idn = true)) ∨ ((¬ (r10_isLength ln = true)) ∨ ((¬ (rm = 0)) ∧ (¬ (dt = 0))))
  · simp only [if_pos g]; simp
  · simp only [if_neg g]
    by_cases g1 : ln = 4
    · simp [g1]
    · by_cases g2 : (dt.toUInt32 >>> (((8 : Int32) * ln).toUInt32 &&& Int32.toUInt32 31)).toInt32 = 0
      · simp [g1, g2]
      · simp [g1, g2]
theorem dsh (s : Nat) (d : Int32) {e : UInt32} (h : (d.toUInt32 >>> e).toInt32 = 0) (he : e.toNat = s := by decide) (hs : s < 32 := by decide) : d.toBitVec.toNat < 2 ^ s := by
  have h1 : d.toUInt32 >>> e = 0 := by
    have := congrArg Int32.toUInt32 h
    have q : d.toUInt32 >>> e = Int32.toUInt32 0 := by simpa using this
    exact q
  have h2 : d.toBitVec.toNat >>> s = 0 := by
    have := congrArg UInt32.toNat h1
    rw [UInt32.toNat_shiftRight, he, Nat.mod_eq_of_lt hs] at this
    exact this
  rw [Nat.shiftRight_eq_div_pow] at h2
  exact (Nat.div_eq_zero_iff.mp h2).resolve_left (by have := Nat.two_pow_pos s; omega)
theorem isF_N {idn rm ln dt : Int32} (h : r10_isFrame idn rm ln dt = true) : ∃ i l, i ≤ 2047 ∧ l ≤ 4 ∧ idn = nI i ∧ ln = nI l ∧ dOK (rmN rm) l dt := by
  unfold r10_isFrame at h
  by_cases g : (¬ (r10_isIdentifier idn = true)) ∨ ((¬ (r10_isLength ln = true)) ∨ ((¬ (rm = 0)) ∧ (¬ (dt = 0))))
  · rw [if_pos g] at h; cases h
  · rw [if_neg g] at h
    have g1 : r10_isIdentifier idn = true := Classical.byContradiction fun q => g (Or.inl q)
    have g2 : r10_isLength ln = true := Classical.byContradiction fun q => g (Or.inr (Or.inl q))
    have g3 : ¬ rm = 0 → dt = 0 := fun q => Classical.byContradiction fun q2 => g (Or.inr (Or.inr ⟨q, q2⟩))
    obtain ⟨i, i1, -, rfl⟩ := within_nat (a := 0) (b := 2047) (by decide) (by decide) g1
    obtain ⟨l, l1, -, rfl⟩ := within_nat (a := 0) (b := 4) (by decide) (by decide) g2
    refine ⟨i, l, i1, l1, rfl, rfl, ?_⟩
    unfold dOK rmN byN
    by_cases r0 : rm = 0
    · rw [if_pos r0, if_neg (show ¬ (0 = 1) by decide)]
      by_cases g4 : (nI l = 4) ∨ ((dt.toUInt32 >>> (((8 : Int32) * nI l).toUInt32 &&& Int32.toUInt32 31)).toInt32 = 0)
      · have hlt : dt.toBitVec.toNat < 2 ^ 32 := dt.toBitVec.isLt
        match l, l1, g4 with
        | 4, _, _ => exact hlt
        | 0, _, g4 => exact dsh 0 dt (by rcases g4 with q | q; exact absurd q (by decide); exact q)
        | 1, _, g4 => exact dsh 8 dt (by rcases g4 with q | q; exact absurd q (by decide); exact q)
        | 2, _, g4 => exact dsh 16 dt (by rcases g4 with q | q; exact absurd q (by decide); exact q)
        | 3, _, g4 => exact dsh 24 dt (by rcases g4 with q | q; exact absurd q (by decide); exact q)
        | n + 5, h, _ => omega
      · rw [if_neg g4] at h; cases h
    · rw [if_neg r0, if_pos rfl, g3 r0]
      decide
theorem keyO {i : Nat} {rm : Int32} : r10_keyOf (nI i) rm = nI (2 * i + rmN rm) := by
  unfold r10_keyOf r10_asInt rmN
  by_cases g : rm = 0
  · rw [if_pos g, if_pos g]; exact key2 i 0
  · rw [if_neg g, if_neg g]; exact key2 i 1
theorem full_room {i : Nat} (hN : NR t (4 + 16 * i) i C D J) : ∃ w, w ≤ 4 ∧ C (4 + 16 * i + 3) 3 = nI w ∧ J 297 (256 * i + 23) = nI w ∧ ((w ≤ 3 ∧ ¬ r3_isFull (4 + 16 * i + 3) 4 C D = true ∧ r11_isRoom i J L = true) ∨ (w = 4 ∧ r3_isFull (4 + 16 * i + 3) 4 C D = true ∧ ¬ r11_isRoom i J L = true)) := by
  obtain ⟨w, w1, w2, w3, -⟩ := hN.1.2.2.2.2.2.2.1
  refine ⟨w, w1, w2, w3, ?_⟩
  unfold r3_isFull r11_isRoom
  rw [w2, w3]
  match w, w1 with
  | 0, _ => exact Or.inl ⟨by omega, by decide, by decide⟩
  | 1, _ => exact Or.inl ⟨by omega, by decide, by decide⟩
  | 2, _ => exact Or.inl ⟨by omega, by decide, by decide⟩
  | 3, _ => exact Or.inl ⟨by omega, by decide, by decide⟩
  | 4, _ => exact Or.inr ⟨by omega, by decide, by decide⟩
  | n + 5, h => omega
/-- one enqueue of the class beside one of the reference -/
theorem enq_K {i idn rm ln : Nat} {d : Int32} (hi : i < 4) (hid : idn ≤ 2047) (hrm : rm ≤ 1) (hln : ln ≤ 4) (hd : dOK rm ln d) (h : BR t 1 C D J) : (r6_enqueue (4 + 16 * i) 2 (nI (2 * idn + rm)) (nI ln) d C D = true ↔ r11_isRoom i J L = true) ∧ ST t C D J (i6_enqueue (4 + 16 * i) 2 (nI (2 * idn + rm)) (nI ln) d C D) D (if r11_isRoom i J L = true then i11_waits i (nI idn) (nI rm) (nI ln) d J L else J) := by
  have hN : NR t (4 + 16 * i) i C D J := h.2.2.2.1 i hi
  obtain ⟨w, w1, w2, w3, ⟨g1, g2, g3⟩ | ⟨g1, g2, g3⟩⟩ := full_room (L := L) hN
  · refine ⟨by unfold r6_enqueue; rw [if_neg g2]; exact ⟨fun _ => g3, fun _ => rfl⟩, ?_⟩
    rw [if_pos g3]
    exact h.set hi (NR.enq (l := 2) hid hrm hln hd w2 g1 hN) (fun a g => x6_enqueue (by omega) (by omega) (by omega) (by omega) (by omega)) (fun _ _ => rfl) (oF.wt w3 g1)
  · refine ⟨by unfold r6_enqueue; rw [if_pos g2]; exact ⟨fun q => absurd q (by decide), fun q => absurd q g3⟩, ?_⟩
    rw [if_neg g3]
    unfold i6_enqueue
    rw [if_pos g2]
    exact ST.rf h
theorem rmN_b (rm : Int32) : nI (rmN rm) = bI (if rm = 0 then false else true) := by
  unfold rmN; by_cases g : rm = 0
  · rw [if_pos g, if_pos g]; rfl
  · rw [if_neg g, if_neg g]; rfl
theorem K_request {idn rm ln dt : Int32} (h : BR t 1 C D J) : ST t C D J (i10_request nd idn rm ln dt C D) D (i11_request nd idn rm ln dt J L) ∧ r10_request nd idn rm ln dt C D = r11_request nd idn rm ln dt J L := by
  unfold i10_request i11_request r10_request r11_request
  rw [← isF_eq]
  show ST t C D J (if r10_isNode nd = true then _ else _) D (if r10_isNode nd = true then _ else _) ∧ (if r10_isNode nd = true then _ else _) = (if r10_isNode nd = true then _ else _)
  by_cases hn : r10_isNode nd = true
  · obtain ⟨i, hi, e, hN⟩ := h.n hn
    rw [if_pos hn, if_pos hn, if_pos hn, if_pos hn, e]
    by_cases hf : r10_isFrame idn rm ln dt = true
    · rw [if_pos hf, if_pos hf, if_pos hf, if_pos hf]
      obtain ⟨y, l, y1, l1, rfl, rfl, hd⟩ := isF_N hf
      rw [keyO, ← rmN_b]
      obtain ⟨k1, k2⟩ := enq_K (L := L) hi y1 (rmN_le rm) l1 hd h
      refine ⟨k2, ?_⟩
      by_cases g : r11_isRoom i J L = true
      · rw [if_pos g, if_pos (k1.mpr g)]
        rw [if_pos g] at k2
        obtain ⟨w, w1, w2, w3, -⟩ := (k2.1.2.2.2.1 i hi).1.2.2.2.2.2.2.1
        rw [w3]
        exact w2
      · rw [if_neg g, if_neg (fun q => g (k1.mp q))]
    · rw [if_neg hf, if_neg hf, if_neg hf, if_neg hf]; exact ⟨ST.rf h, rfl⟩
  · rw [if_neg hn, if_neg hn, if_neg hn, if_neg hn]; exact ⟨ST.rf h, rfl⟩
end ND
section ND2
variable {t : Nat} {C J C' J' : Nat → Nat → Int32} {D D' L : Nat → Nat → Int64} {nd x : Int32}
/-! disturbances -/
theorem K_disturb {a x : Int32} (h : BR t 1 C D J) : ST t C D J (i10_disturb a x C D) D (i11_disturb a x J L) ∧ r10_disturb a x C D = r11_disturb a x J L := by
  unfold i10_disturb i11_disturb r10_disturb r11_disturb i1_add r1_add
  show ST t C D J (if _ then _ else _) D (if (¬ ((r10_isWithin a 1 15) = true)) ∨ (¬ ((r10_isWithin x 0 200) = true)) then _ else _) ∧ _ = (if (¬ ((r10_isWithin a 1 15) = true)) ∨ (¬ ((r10_isWithin x 0 200) = true)) then _ else _)
  by_cases g : (¬ ((r10_isWithin a 1 15) = true)) ∨ (¬ ((r10_isWithin x 0 200) = true))
  · rw [if_pos g, if_pos g, if_pos g, if_pos g]; exact ⟨ST.rf h, rfl⟩
  · rw [if_neg g, if_neg g, if_neg g, if_neg g]
    obtain ⟨h4, h1, hL, hN, ⟨d, d1, d2, d3, d4⟩, hV⟩ := id h
    have d2' : C 68 2 = nI d := d2
    rw [d2', d3, h4, h1, nI_clamp (by omega)]
    by_cases g8 : d = 8
    · subst g8
      rw [if_neg (show ¬ nI 8 < 8 by decide), if_pos (show nI 8 = 8 by decide), if_neg (show ¬ nI 8 < 8 by decide), if_pos (show nI 8 = 8 by decide), if_neg (show ¬ (false = true) by decide)]
      exact ⟨ST.rf h, rfl⟩
    · have c1 : nI d < 8 := nI_lt (b := 8) (by omega) (by omega)
      have c2 : ¬ nI d = 8 := fun q => g8 ((nI_eq (b := 8) (by omega) (by omega)).mp q)
      rw [if_pos c1, if_neg c2, if_pos c1, if_neg c2, if_pos rfl, nI_1]
      refine ⟨?_, uI_self _ _ _ _⟩
      have hC : ∀ a', a' ≠ 68 → a' ≠ 69 → a' ≠ 70 → (uI (uI (uI C (68 + 1) d a) (68 + 2) d (nI t + x)) 68 2 (nI (d + 1))) a' = C a' := fun a' g1 g2 g3 => by rw [uI_off _ _ _ g1, uI_off _ _ _ g3, uI_off _ _ _ g2]
      have hJ : ∀ y, y ≠ 1028 → y ≠ 2 * d + 1029 → y ≠ 2 * d + 1030 → (uI (uI (uI J 297 (2 * d + 1029) (nI t + x)) 297 (2 * d + 1030) a) 297 1028 (nI (d + 1))) 297 y = J 297 y := fun y g1 g2 g3 => by rw [uI_ne _ _ _ g1, uI_ne _ _ _ g3, uI_ne _ _ _ g2]
      refine ⟨⟨?_, ?_, hL.congr (hC _ (by omega) (by omega) (by omega)) (fun y _ _ => hJ _ (by omega) (by omega) (by omega)), fun j hj => (hN j hj).congr (fun a b _ _ _ => by rw [hC _ (by omega) (by omega) (by omega)]) rfl rfl (fun s y e' _ _ => hJ _ (by omega) (by omega) (by omega)), ⟨d + 1, by omega, ?_, ?_, fun j hj => ?_⟩, fun j hj => by rw [hC _ (by omega) (by omega) (by omega), hJ _ (by omega) (by omega) (by omega)]; exact hV j hj⟩, fun a' g => hC a' (by omega) (by omega) (by omega), fun _ _ => rfl, fun a' g => ?_⟩
      · rw [hC _ (by omega) (by omega) (by omega)]; exact h4
      · rw [hJ _ (by omega) (by omega) (by omega)]; exact h1
      · exact uI_self _ 68 2 _
      · exact uI_self _ _ _ _
      · have e68 : (uI (uI (uI C (68 + 1) d a) (68 + 2) d (nI t + x)) 68 2 (nI (d + 1))) (1 + 68) j = if j = d then a else C 69 j := by
          rw [uI_off _ _ _ (show 1 + 68 ≠ 68 by decide), uI_off _ _ _ (show 1 + 68 ≠ 68 + 2 by decide), uI_eq]
          by_cases q : j = d
          · rw [if_pos q, if_pos ⟨rfl, q⟩]
          · rw [if_neg q, if_neg (fun z => q z.2)]
        have e69 : (uI (uI (uI C (68 + 1) d a) (68 + 2) d (nI t + x)) 68 2 (nI (d + 1))) (1 + 69) j = if j = d then nI t + x else C 70 j := by
          rw [uI_off _ _ _ (show 1 + 69 ≠ 68 by decide), uI_eq]
          by_cases q : j = d
          · rw [if_pos q, if_pos ⟨rfl, q⟩]
          · rw [if_neg q, if_neg (fun z => q z.2), uI_off _ _ _ (show 1 + 69 ≠ 68 + 1 by decide)]
        rw [e68, e69]
        by_cases q : j = d
        · subst q
          rw [if_pos rfl, if_pos rfl, uI_ne _ _ _ (show 2 * j + 1030 ≠ 1028 by omega), uI_self, uI_ne _ _ _ (show 2 * j + 1029 ≠ 1028 by omega), uI_ne _ _ _ (show 2 * j + 1029 ≠ 2 * j + 1030 by omega), uI_self]
          exact ⟨rfl, rfl⟩
        · rw [if_neg q, if_neg q, hJ _ (by omega) (by omega) (by omega), hJ _ (by omega) (by omega) (by omega)]
          exact d4 j (by omega)
      · rw [uI_off _ _ _ g, uI_off _ _ _ g, uI_off _ _ _ g]
/-! to cancel -/
theorem key_sh {idn rm : Nat} (h1 : idn ≤ 2047) (h2 : rm ≤ 1) : (nI (2 * idn + rm)) >>> ((1 : Int32) &&& 31) = nI idn := by
  rw [pk_shrN (show 2 * idn + rm < 2 ^ 31 by omega) (1 &&& 31) 1 (by decide), show (2 * idn + rm) / 2 ^ 1 = idn by omega]
theorem cancel_K {i : Nat} {z0 : Int32} (hi : i < 4) : ∀ n (z : Int32) (C : Nat → Nat → Int32) (J : Nat → Nat → Int32), (∃ w, n ≤ w ∧ w ≤ 4 ∧ C (4 + 16 * i + 3) 3 = nI w) → BR t 1 C D J → ST t C D J (i6_withdraw_12 (4 + 16 * i) 2 x n n z C D) D (i11_cancel_26 z0 x n n i z J L) ∧ r6_withdraw_12 (4 + 16 * i) 2 x n n z C D = r11_cancel_26 z0 x n n i z J L := by
  intro n
  induction n with
  | zero => intro z C J _ h; exact ⟨ST.rf h, rfl⟩
  | succ n ih =>
    intro z C J ⟨w, hw1, hw4, hw⟩ h
    simp only [i6_withdraw_12, i11_cancel_26, r6_withdraw_12, r11_cancel_26]
    have hN : NR t (4 + 16 * i) i C D J := h.2.2.2.1 i hi
    obtain ⟨w', w1, w2, w3, w4, -⟩ := hN.1.2.2.2.2.2.2.1
    have e : w' = w := (nI_eq (by omega) (by omega)).mp (w2.symm.trans hw)
    subst e
    obtain ⟨idn, rm, ln, i1, r1, l1, a4, a5, -, a7, -⟩ := w4 n (by omega)
    have key : r3_keyAt (4 + 16 * i + 3) 4 (nI n) C D >>> ((1 : Int32) &&& 31) = nI idn := by
      unfold r3_keyAt r3_has
      rw [hw, if_neg (c := nI n < 0 ∨ nI w' ≤ nI n) (fun q => q.elim (nI_pos (by omega)) (nI_ge (by omega) (by omega))), if_pos rfl, nI_clamp (by omega), show C (4 + 16 * i + 3 + 1) n = _ from a7]
      exact key_sh i1 r1
    have sd : (nI n = C (4 + 16 * i) 17) ↔ ¬ (J 297 (5 * n + 256 * i + 34) = 0) := by
      rw [show 5 * n + 256 * i + 34 = 256 * i + 5 * n + 34 by omega]
      rcases hN.2.2.2.2.2.2.2.1 with ⟨s1, s2⟩ | ⟨s, v, s1, s2, s3, s4, s5⟩
      · rw [s1, s2 n (by omega)]
        exact ⟨fun q => absurd q ((by decide : ∀ n, n < 4 → ¬ nI n = (-1)) n (by omega)), fun q => absurd rfl q⟩
      · rw [s4, s5 n (by omega)]
        by_cases q : n = s
        · subst q; rw [if_pos rfl]; exact ⟨fun _ => by decide, fun _ => rfl⟩
        · rw [if_neg q]; exact ⟨fun z => absurd ((nI_eq (by omega) (by omega)).mp z) q, fun z => absurd rfl z⟩
    rw [key, show 5 * n + 256 * i + 30 = 256 * i + 5 * n + 30 by omega, a4]
    by_cases g1 : nI n = C (4 + 16 * i) 17
    · have g2 := sd.mp g1
      simp only [if_pos g1]
      rw [if_pos (c := (¬ (nI idn = x)) ∨ ¬ (J 297 (5 * n + 256 * i + 34) = 0)) (Or.inr g2), if_pos (c := (¬ (nI idn = x)) ∨ ¬ (J 297 (5 * n + 256 * i + 34) = 0)) (Or.inr g2)]
      exact ih z C J ⟨w', by omega, hw4, hw⟩ h
    · have g2 : J 297 (5 * n + 256 * i + 34) = 0 := Classical.byContradiction fun q => g1 (sd.mpr q)
      simp only [if_neg g1]
      by_cases g3 : nI idn = x
      · simp only [if_pos g3]
        rw [if_neg (c := (¬ (nI idn = x)) ∨ ¬ (J 297 (5 * n + 256 * i + 34) = 0)) (fun q => q.elim (fun q => q g3) (fun q => q g2)), if_neg (c := (¬ (nI idn = x)) ∨ ¬ (J 297 (5 * n + 256 * i + 34) = 0)) (fun q => q.elim (fun q => q g3) (fun q => q g2))]
        have nr := NR.wdr (L := L) hw hw4 (show n < w' by omega) g1 hN
        have k1 := h.set hi nr (fun a g => by split; exact x3_removeAt (by omega) (by omega) (by omega) (by omega); rw [uI_off _ _ _ (by omega)]; exact x3_removeAt (by omega) (by omega) (by omega) (by omega)) (fun _ _ => rfl) (oF.un (by omega) w3 hw4)
        obtain ⟨v, v1, v2, v3, -⟩ := nr.1.2.2.2.2.2.2.1
        have hv : v = w' - 1 := (nI_eq (by omega) (by omega)).mp (v3.symm.trans (unw_23 w3 (by omega)))
        obtain ⟨k2, k3⟩ := ih (z + 1) _ _ ⟨v, by omega, v1, v2⟩ k1.1
        exact ⟨⟨k2.1, fun a g => (k2.2.1 a g).trans (k1.2.1 a g), fun a g => (k2.2.2.1 a g).trans (k1.2.2.1 a g), fun a g => (k2.2.2.2 a g).trans (k1.2.2.2 a g)⟩, k3⟩
      · simp only [if_neg g3]
        rw [if_pos (c := (¬ (nI idn = x)) ∨ ¬ (J 297 (5 * n + 256 * i + 34) = 0)) (Or.inl g3), if_pos (c := (¬ (nI idn = x)) ∨ ¬ (J 297 (5 * n + 256 * i + 34) = 0)) (Or.inl g3)]
        exact ih z C J ⟨w', by omega, hw4, hw⟩ h
theorem K_cancel (h : BR t 1 C D J) : ST t C D J (i10_cancel nd x C D) D (i11_cancel nd x J L) ∧ r10_cancel nd x C D = r11_cancel nd x J L := by
  unfold i10_cancel i11_cancel r10_cancel r11_cancel
  show ST t C D J (if r10_isNode nd = true then _ else _) D (if r10_isNode nd = true then _ else _) ∧ (if r10_isNode nd = true then _ else _) = (if r10_isNode nd = true then _ else _)
  by_cases hn : r10_isNode nd = true
  · obtain ⟨i, hi, e, hN⟩ := h.n hn
    rw [if_pos hn, if_pos hn, if_pos hn, if_pos hn, e]
    obtain ⟨w, w1, w2, w3, -⟩ := hN.1.2.2.2.2.2.2.1
    unfold i6_withdraw r6_withdraw
    rw [w2, w3, nI_clamp (by omega)]
    exact cancel_K hi w 0 C J ⟨w, Nat.le_refl _, w1, w2⟩ h
  · rw [if_neg hn, if_neg hn, if_neg hn, if_neg hn]; exact ⟨ST.rf h, rfl⟩
end ND2
