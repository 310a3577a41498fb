section RDQ
variable {t p : Nat} {I I' : Nat → Nat → Int32} {D L : Nat → Nat → Int64} {X : Nat → Int32} {x nd id rm ln dt : Int32}
def RS (I : Nat → Nat → Int32) (s nd id rm ln dt : Int32) : Prop := I 294 0 = s ∧ I 294 1 = nd ∧ I 294 2 = id ∧ I 294 3 = rm ∧ I 294 4 = ln ∧ I 294 5 = dt
theorem Gd.mono {ok : Bool} {q : Nat} {P P' : (Nat → Nat → Int32) → Prop} (h : Gd D X t I p ok q P) (hP : ∀ K, P K → P' K) : Gd D X t I p ok q P' := by
  rcases h with ⟨h1, J, h2, h3, h4, h5, h6⟩ | h
  · exact Or.inl ⟨h1, J, h2, h3, h4, h5, hP J h6⟩
  · exact Or.inr h
theorem RS.st {s s' : Int32} (h : RS I s nd id rm ln dt) : RS (uI I 294 0 s') s' nd id rm ln dt := by
  obtain ⟨h0, h1, h2, h3, h4, h5⟩ := h
  exact ⟨uI_self _ _ _ _, (uI_ne _ _ _ (by decide)).trans h1, (uI_ne _ _ _ (by decide)).trans h2, (uI_ne _ _ _ (by decide)).trans h3, (uI_ne _ _ _ (by decide)).trans h4, (uI_ne _ _ _ (by decide)).trans h5⟩
theorem ev8 : ∀ j, j ≤ 8 → (nI j - nI j / 2 * 2 = 1 ∧ ¬ nI j - nI j / 2 * 2 = 0 ∧ ¬ j = 0) ∨ (¬ nI j - nI j / 2 * 2 = 1 ∧ nI j - nI j / 2 * 2 = 0 ∧ nI j / 2 = nI (j / 2) ∧ 2 * (j / 2) = j) := by decide +kernel
def Pd (nd id rm ln dt : Int32) (I' : Nat → Nat → Int32) : Prop := RS I' 0 nd id rm ln dt ∧ ∃ l, l ≤ 4 ∧ ln = nI l ∧ dOK 0 l dt
theorem rd_end {j : Nat} (hX : lt127 t X) (hj : j ≤ 8) (hp : p ≤ t) (hR : RS I (nI (6 + j)) nd id 0 (nI j / 2) dt) (hd : dt.toBitVec.toNat < 2 ^ (4 * j)) (h0 : j = 0 → ¬ hrN t X p = 82) (hx : r11_hex (hrN t X p) < 0 ∨ j = 8) : Gd D X t I p (qEnd (hrN t X) j p dt).1 (qEnd (hrN t X) j p dt).2.1 (Pd nd id 0 (qEnd (hrN t X) j p dt).2.2.1 (qEnd (hrN t X) j p dt).2.2.2) := by
  unfold qEnd
  have bad : (p < t → ¬ (X p = 59 ∧ nI j - nI j / 2 * 2 = 0)) → p < t → r7_take (X p) I D = false := fun hb hpt => by
    rw [hrI hpt] at h0 hx
    refine tk_no ((sad hj hR.1).trans ?_)
    by_cases g1 : X p = 59
    · rw [if_pos g1, if_neg (fun z => hb hpt ⟨g1, z⟩)]
    · rw [if_neg g1]
      by_cases g2 : X p = 82
      · rw [if_pos g2, if_neg (fun z => h0 z g2)]
      · rw [if_neg g2, if_pos (hx.elim Or.inl (fun z => Or.inr (by omega)))]
  rcases ev8 j hj with ⟨e1, e2, e3⟩ | ⟨e1, e2, e3, e4⟩
  · rw [if_pos e1]
    exact Gd.no hp (bad (fun _ z => e2 z.2))
  · rw [if_neg e1]
    by_cases g : hrN t X p = 59
    · rw [if_pos g]
      have hpt : p < t := Classical.byContradiction fun z => by rw [hrO z] at g; exact q_m1.2.2.2.2.2.2 g
      rw [hrI hpt] at g
      obtain ⟨k1, k2⟩ := tk_of (D := D) (x := X p) (I := I) (y := 0) ((sad hj hR.1).trans (by rw [if_pos g, if_pos e2])) (by decide)
      have kv : i7_keepValue (X p) I D = I := by
        by_cases j8 : j = 8
        · exact kv8 (by rw [hR.1, j8]; rfl)
        · rw [kvd (by omega) hR.1, g, if_pos q_sc.1]
      rw [kv] at k2
      refine Gd.yes hpt k1 (by rw [k2]; exact uI_self _ _ _ _) ?_
      rw [k2]
      refine ⟨hR.st, j / 2, by omega, e3, ?_⟩
      unfold dOK byN
      rw [if_neg (by decide), show 8 * (j / 2) = 4 * j by omega]
      exact hd
    · rw [if_neg g]
      refine Gd.no hp (bad (fun hpt z => g (by rw [hrI hpt]; exact z.1)))
theorem rd_217 (hX : lt127 t X) : ∀ n j p (I : Nat → Nat → Int32) (dt : Int32), j + n = 8 → p ≤ t → RS I (nI (6 + j)) nd id 0 (nI j / 2) dt → dt.toBitVec.toNat < 2 ^ (4 * j) → (j = 0 → ¬ hrN t X p = 82) → Gd D X t I p (q217 (hrN t X) n j p dt).1 (q217 (hrN t X) n j p dt).2.1 (Pd nd id 0 (q217 (hrN t X) n j p dt).2.2.1 (q217 (hrN t X) n j p dt).2.2.2) := by
  intro n
  induction n with
  | zero =>
    intro j p I dt hj hp hR hd h0
    exact rd_end hX (by omega) hp hR hd h0 (Or.inr (by omega))
  | succ n ih =>
    intro j p I dt hj hp hR hd h0
    simp only [q217]
    by_cases g : r11_hex (hrN t X p) < 0
    · rw [if_pos g]
      exact rd_end hX (by omega) hp hR hd h0 (Or.inl g)
    · rw [if_neg g]
      have hpt : p < t := Classical.byContradiction fun z => by rw [hrO z] at g; exact g q_m1.1
      rw [hrI hpt] at g ⊢
      obtain ⟨c, c1, c2⟩ := hX p hpt
      rcases q_hex c c1 with q | ⟨q1, q2⟩
      · exact absurd (by rw [c2]; exact q) g
      · obtain ⟨v, hv⟩ : ∃ v, v = (r11_hex (nI c)).toNatClampNeg := ⟨_, rfl⟩
        rw [← hv] at q1 q2
        have hh : r11_hex (X p) = nI v := by rw [c2]; exact q2
        have sa : r7_stateAfter (X p) I D = nI (7 + j) := by
          rw [sad (by omega) hR.1, if_neg (fun z => by rw [z] at g; exact g q_sc.1), if_neg (fun z => by rw [z] at g; exact g q_sc.2), if_neg (fun z => z.elim g (by omega))]
        obtain ⟨k1, k2⟩ := tk_of sa ((by decide : ∀ j, j ≤ 8 → ¬ nI (7 + j) = (-1)) j (by omega))
        rw [kvd (by omega) hR.1, if_neg g, hR.2.2.2.2.2, hh] at k2
        rw [hh]
        have hR' : RS (i7_take (X p) I D) (nI (6 + (j + 1))) nd id 0 (nI (j + 1) / 2) ((dt <<< (4 &&& 31)) ||| nI v) := by
          obtain ⟨r0, r1, r2, r3, r4, r5⟩ := hR
          rw [k2]
          refine ⟨by rw [uI_self]; congr 1; omega, ?_, ?_, ?_, ?_, ?_⟩
          · rw [uI_ne _ _ _ (by decide), uI_ne _ _ _ (by decide), uI_ne _ _ _ (by decide)]; exact r1
          · rw [uI_ne _ _ _ (by decide), uI_ne _ _ _ (by decide), uI_ne _ _ _ (by decide)]; exact r2
          · rw [uI_ne _ _ _ (by decide), uI_ne _ _ _ (by decide), uI_ne _ _ _ (by decide)]; exact r3
          · rw [uI_ne _ _ _ (by decide), uI_self]
          · rw [uI_ne _ _ _ (by decide), uI_ne _ _ _ (by decide), uI_self]
        refine Gd.step hpt k1 (by rw [hR'.1]; exact nI_ne0 (by omega) (by omega)) ?_
        exact ih (j + 1) (p + 1) _ _ (by omega) hpt hR' (sh4_lt (by omega) hd q1) (fun z => absurd z (by omega))
/-- what a request asks for, in range -/
def Pq (nd id rm ln dt : Int32) (I' : Nat → Nat → Int32) : Prop := RS I' 0 nd id rm ln dt ∧ ∃ l r, l ≤ 4 ∧ r ≤ 1 ∧ ln = nI l ∧ rm = nI r ∧ dOK r l dt
theorem rd_hash {k : Nat} (hX : lt127 t X) (hp : p ≤ t) (hR : RS I 5 nd id 0 0 0) : Gd D X t I p (q60 (hrN t X) 0 k p id).1 (q60 (hrN t X) 0 k p id).2.1 (Pq nd (q60 (hrN t X) 0 k p id).2.2.1 (q60 (hrN t X) 0 k p id).2.2.2.1 (q60 (hrN t X) 0 k p id).2.2.2.2.1 (q60 (hrN t X) 0 k p id).2.2.2.2.2) := by
  simp only [q60]
  by_cases g : hrN t X p = 35
  · rw [if_pos g]
    have hpt : p < t := Classical.byContradiction fun z => by rw [hrO z] at g; exact q_m1.2.2.2.2.1 g
    rw [hrI hpt] at g
    obtain ⟨k1, k2⟩ := tk_of (D := D) (x := X p) (I := I) (y := 6) ((sa5 hR.1).trans (by rw [if_pos g])) (by decide)
    rw [kvn (Or.inr (Or.inl hR.1))] at k2
    have hR1 : RS (i7_take (X p) I D) 6 nd id 0 0 0 := by rw [k2]; exact hR.st
    refine Gd.step hpt k1 (by rw [hR1.1]; decide) ?_
    by_cases g2 : hrN t X (p + 1) = 82
    · rw [if_pos g2]
      have hpt2 : p + 1 < t := Classical.byContradiction fun z => by rw [hrO z] at g2; exact q_m1.2.2.2.2.2.1 g2
      rw [hrI hpt2] at g2
      obtain ⟨l1, l2⟩ := tk_of (D := D) (x := X (p + 1)) (I := i7_take (X p) I D) (y := 15) ((sad (j := 0) (by omega) hR1.1).trans (by rw [g2]; rfl)) (by decide)
      rw [kvd (j := 0) (by omega) hR1.1, g2, if_pos q_sc.2] at l2
      rw [← g2] at l2
      have hR2 : RS (i7_take (X (p + 1)) (i7_take (X p) I D) D) 15 nd id 0 0 0 := by rw [l2]; exact hR1.st
      refine Gd.step hpt2 l1 (by rw [hR2.1]; decide) ?_
      by_cases g3 : (r11_in (hrN t X (p + 2) - 48) 0 4) = true
      · rw [if_pos g3]
        have hpt3 : p + 1 + 1 < t := Classical.byContradiction fun z => by rw [hrO z] at g3; exact q_m1.2.2.1 g3
        rw [hrI (p := p + 2) hpt3] at g3 ⊢
        obtain ⟨c, c1, c2⟩ := hX (p + 2) hpt3
        have w : r10_isWithin (X (p + 2)) 48 52 = true := by rw [c2, ← (q_rl c c1).1, ← c2]; exact g3
        obtain ⟨v1, v2⟩ := (q_rl c c1).2 (by rw [← c2]; exact w)
        rw [← c2] at v1 v2
        obtain ⟨m1, m2⟩ := tk_of (D := D) (x := X (p + 1 + 1)) (I := i7_take (X (p + 1)) (i7_take (X p) I D) D) (y := 16) ((sa15 hR2.1).trans (by rw [if_pos w])) (by decide)
        rw [kv15 hR2.1] at m2
        have hR3 : RS (i7_take (X (p + 1 + 1)) (i7_take (X (p + 1)) (i7_take (X p) I D) D) D) 16 nd id 1 (X (p + 2) - 48) 0 := by
          obtain ⟨r0, r1, r2, r3, r4, r5⟩ := hR2
          rw [m2]
          refine ⟨uI_self _ _ _ _, ?_, ?_, ?_, ?_, ?_⟩
          · rw [uI_ne _ _ _ (by decide), uI_ne _ _ _ (by decide), uI_ne _ _ _ (by decide)]; exact r1
          · rw [uI_ne _ _ _ (by decide), uI_ne _ _ _ (by decide), uI_ne _ _ _ (by decide)]; exact r2
          · rw [uI_ne _ _ _ (by decide), uI_ne _ _ _ (by decide), uI_self]
          · rw [uI_ne _ _ _ (by decide), uI_self]
          · rw [uI_ne _ _ _ (by decide), uI_ne _ _ _ (by decide), uI_ne _ _ _ (by decide)]; exact r5
        have fin : ∃ l r, l ≤ 4 ∧ r ≤ 1 ∧ X (p + 2) - 48 = nI l ∧ (1 : Int32) = nI r ∧ dOK r l 0 := ⟨_, 1, v1, by omega, v2, rfl, by unfold dOK byN; rw [if_pos rfl]; decide⟩
        by_cases g4 : hrN t X (p + 3) = 59
        · rw [if_pos g4]
          have hpt4 : p + 1 + 1 + 1 < t := Classical.byContradiction fun z => by rw [hrO z] at g4; exact q_m1.2.2.2.2.2.2 g4
          rw [hrI (p := p + 3) hpt4] at g4
          refine Gd.step hpt3 m1 (by rw [hR3.1]; decide) ?_
          obtain ⟨n1, n2⟩ := tk_of (D := D) (x := X (p + 1 + 1 + 1)) (y := 0) ((sa16 (x := X (p + 1 + 1 + 1)) hR3.1).trans (by rw [show X (p + 1 + 1 + 1) = 59 from g4, if_pos rfl])) (by decide)
          rw [kvn (Or.inr (Or.inr hR3.1))] at n2
          refine Gd.yes hpt4 n1 (by rw [n2]; exact uI_self _ _ _ _) ?_
          rw [n2]
          exact ⟨hR3.st, fin⟩
        · rw [if_neg g4]
          refine Gd.step hpt3 m1 (by rw [hR3.1]; decide) (Gd.no hpt3 (fun z => tk_no ((sa16 hR3.1).trans (by rw [if_neg (fun q => g4 (by rw [hrI (p := p + 3) z]; exact q))]))))
      · rw [if_neg g3]
        refine Gd.no (p := p + 1 + 1) hpt2 (fun z => tk_no ((sa15 hR2.1).trans ?_))
        rw [hrI (p := p + 2) z] at g3
        obtain ⟨c, c1, c2⟩ := hX (p + 2) z
        rw [if_neg]
        intro q
        apply g3
        have q : r10_isWithin (X (p + 2)) 48 52 = true := q
        rw [c2, (q_rl c c1).1, ← c2]; exact q
    · rw [if_neg g2]
      refine (rd_217 (nd := nd) (id := id) hX 8 0 (p + 1) _ 0 (by omega) hpt hR1 (by decide) (fun _ => g2)).mono (fun K hK => ⟨hK.1, ?_⟩)
      obtain ⟨l, a1, a2, a3⟩ := hK.2
      exact ⟨l, 0, a1, by omega, a2, rfl, a3⟩
  · rw [if_neg g]
    exact Gd.no hp (fun z => tk_no ((sa5 hR.1).trans (by rw [if_neg (fun q => g (by rw [hrI z]; exact q))])))
/-- a digit of the identifier -/
theorem rd_id {s m c v : Nat} {q : Bool × Nat × Int32 × Int32 × Int32 × Int32} (hpt : p < t) (hs : s = 2 ∨ s = 3 ∨ s = 4) (hR : RS I (nI s) nd (nI m) 0 0 0) (c2 : X p = nI c) (hv : r11_hex (nI c) = nI v) (hv15 : v ≤ 15) (hm : m < 2 ^ 20) (sa : r7_stateAfter (X p) I D = nI (s + 1)) (h : ∀ K, RS K (nI (s + 1)) nd (nI (16 * m + v)) 0 0 0 → Gd D X t K (p + 1) q.1 q.2.1 (Pq nd q.2.2.1 q.2.2.2.1 q.2.2.2.2.1 q.2.2.2.2.2)) : Gd D X t I p q.1 q.2.1 (Pq nd q.2.2.1 q.2.2.2.1 q.2.2.2.2.1 q.2.2.2.2.2) := by
  obtain ⟨k1, k2⟩ := tk_of sa (by rcases hs with z | z | z <;> subst z <;> decide)
  rw [kvi (by rcases hs with z | z | z <;> subst z; exact Or.inl hR.1; exact Or.inr (Or.inl hR.1); exact Or.inr (Or.inr hR.1)), hR.2.2.1, c2, hv, sh4 hm hv15] at k2
  rw [← c2] at k2
  have hR' : RS (i7_take (X p) I D) (nI (s + 1)) nd (nI (16 * m + v)) 0 0 0 := by
    obtain ⟨r0, r1, r2, r3, r4, r5⟩ := hR
    rw [k2]
    refine ⟨uI_self _ _ _ _, ?_, ?_, ?_, ?_, ?_⟩
    · rw [uI_ne _ _ _ (by decide), uI_ne _ _ _ (by decide)]; exact r1
    · rw [uI_ne _ _ _ (by decide), uI_self]
    · rw [uI_ne _ _ _ (by decide), uI_ne _ _ _ (by decide)]; exact r3
    · rw [uI_ne _ _ _ (by decide), uI_ne _ _ _ (by decide)]; exact r4
    · rw [uI_ne _ _ _ (by decide), uI_ne _ _ _ (by decide)]; exact r5
  exact Gd.step hpt k1 (by rw [hR'.1]; exact nI_ne0 (by omega) (by omega)) (h _ hR')
theorem id_m {m v : Nat} : ((16 : Int32) * nI m) + nI v = nI (16 * m + v) := by
  simp only [nI, Int32.ofNat_add, Int32.ofNat_mul]
  rfl
theorem rd_i1 {m : Nat} (hX : lt127 t X) (hp : p ≤ t) (hm : m ≤ 127) (hR : RS I 4 nd (nI m) 0 0 0) : Gd D X t I p (q60 (hrN t X) 1 2 p (nI m)).1 (q60 (hrN t X) 1 2 p (nI m)).2.1 (Pq nd (q60 (hrN t X) 1 2 p (nI m)).2.2.1 (q60 (hrN t X) 1 2 p (nI m)).2.2.2.1 (q60 (hrN t X) 1 2 p (nI m)).2.2.2.2.1 (q60 (hrN t X) 1 2 p (nI m)).2.2.2.2.2) ∧ ((q60 (hrN t X) 1 2 p (nI m)).1 = true → ∃ i, i ≤ 2047 ∧ (q60 (hrN t X) 1 2 p (nI m)).2.2.1 = nI i) := by
  rw [q60]
  by_cases g : r11_hex (hrN t X p) < 0
  · rw [if_pos (Or.inl g)]
    exact ⟨Gd.no hp (fun z => tk_no ((sa4 hR.1).trans (by rw [hrI z] at g; rw [if_pos g]))), fun z => absurd (show false = true from z) (by decide)⟩
  · rw [if_neg (fun z => z.elim g (fun z => absurd z.1 (by decide)))]
    have hpt : p < t := Classical.byContradiction fun z => by rw [hrO z] at g; exact g q_m1.1
    rw [hrI hpt] at g ⊢
    obtain ⟨c, c1, c2⟩ := hX p hpt
    rcases q_hex c c1 with q | ⟨q1, q2⟩
    · exact absurd (by rw [c2]; exact q) g
    · obtain ⟨v, hv⟩ : ∃ v, v = (r11_hex (nI c)).toNatClampNeg := ⟨_, rfl⟩
      rw [← hv] at q1 q2
      rw [c2, q2, id_m]
      refine ⟨rd_id hpt (s := 4) (Or.inr (Or.inr rfl)) hR c2 q2 q1 (by omega) ((sa4 hR.1).trans (by rw [if_neg g]; rfl)) (fun K hK => rd_hash hX hpt hK), fun z => ⟨16 * m + v, by omega, ?_⟩⟩
      simp only [q60]
      split
      · split
        · split
          · split <;> rfl
          · rfl
        · rfl
      · rfl
theorem rd_i2 {m : Nat} (hX : lt127 t X) (hp : p ≤ t) (hm : m ≤ 7) (hR : RS I 3 nd (nI m) 0 0 0) : Gd D X t I p (q60 (hrN t X) 2 1 p (nI m)).1 (q60 (hrN t X) 2 1 p (nI m)).2.1 (Pq nd (q60 (hrN t X) 2 1 p (nI m)).2.2.1 (q60 (hrN t X) 2 1 p (nI m)).2.2.2.1 (q60 (hrN t X) 2 1 p (nI m)).2.2.2.2.1 (q60 (hrN t X) 2 1 p (nI m)).2.2.2.2.2) ∧ ((q60 (hrN t X) 2 1 p (nI m)).1 = true → ∃ i, i ≤ 2047 ∧ (q60 (hrN t X) 2 1 p (nI m)).2.2.1 = nI i) := by
  rw [q60]
  by_cases g : r11_hex (hrN t X p) < 0
  · rw [if_pos (Or.inl g)]
    exact ⟨Gd.no hp (fun z => tk_no ((sa3 hR.1).trans (by rw [hrI z] at g; rw [if_pos g]))), fun z => absurd (show false = true from z) (by decide)⟩
  · rw [if_neg (fun z => z.elim g (fun z => absurd z.1 (by decide)))]
    have hpt : p < t := Classical.byContradiction fun z => by rw [hrO z] at g; exact g q_m1.1
    rw [hrI hpt] at g ⊢
    obtain ⟨c, c1, c2⟩ := hX p hpt
    rcases q_hex c c1 with q | ⟨q1, q2⟩
    · exact absurd (by rw [c2]; exact q) g
    · obtain ⟨v, hv⟩ : ∃ v, v = (r11_hex (nI c)).toNatClampNeg := ⟨_, rfl⟩
      rw [← hv] at q1 q2
      rw [c2, q2, id_m]
      exact ⟨rd_id hpt (s := 3) (Or.inr (Or.inl rfl)) hR c2 q2 q1 (by omega) ((sa3 hR.1).trans (by rw [if_neg g]; rfl)) (fun K hK => (rd_i1 hX hpt (by omega) hK).1), fun z => (rd_i1 (D := D) (nd := 0) (I := fun _ y => if y = 0 then 4 else if y = 2 then nI (16 * m + v) else 0) hX hpt (by omega) ⟨rfl, rfl, rfl, rfl, rfl, rfl⟩).2 z⟩
theorem rd_i3 (hX : lt127 t X) (hp : p ≤ t) (hR : RS I 2 nd 0 0 0 0) : Gd D X t I p (q60 (hrN t X) 3 0 p 0).1 (q60 (hrN t X) 3 0 p 0).2.1 (Pq nd (q60 (hrN t X) 3 0 p 0).2.2.1 (q60 (hrN t X) 3 0 p 0).2.2.2.1 (q60 (hrN t X) 3 0 p 0).2.2.2.2.1 (q60 (hrN t X) 3 0 p 0).2.2.2.2.2) ∧ ((q60 (hrN t X) 3 0 p 0).1 = true → ∃ i, i ≤ 2047 ∧ (q60 (hrN t X) 3 0 p 0).2.2.1 = nI i) := by
  rw [q60]
  by_cases g : (r11_hex (hrN t X p) < 0) ∨ ((nI 0 = 0) ∧ (¬ (r11_hex (hrN t X p) ≤ 7)))
  · rw [if_pos g]
    refine ⟨Gd.no hp (fun z => tk_no ((sa2 hR.1).trans ?_)), fun z => absurd (show false = true from z) (by decide)⟩
    rw [hrI z] at g
    obtain ⟨c, c1, c2⟩ := hX p z
    rw [c2] at g ⊢
    rw [if_neg (fun w => (q_i0 c c1).mp w g)]
  · rw [if_neg g]
    have hpt : p < t := Classical.byContradiction fun z => by rw [hrO z] at g; exact g (Or.inl q_m1.1)
    rw [hrI hpt] at g ⊢
    obtain ⟨c, c1, c2⟩ := hX p hpt
    have w : r10_isWithin (nI c) 48 55 = true := (q_i0 c c1).mpr (by rw [← c2]; exact g)
    rcases q_hex c c1 with q | ⟨q1, q2⟩
    · exact absurd (Or.inl (by rw [c2]; exact q)) g
    · have h7 := q_h7 c c1 w
      obtain ⟨v, hv⟩ : ∃ v, v = (r11_hex (nI c)).toNatClampNeg := ⟨_, rfl⟩
      rw [← hv] at q1 q2 h7
      rw [c2, q2, show ((16 : Int32) * 0) + nI v = nI (16 * 0 + v) from id_m (m := 0)]
      exact ⟨rd_id hpt (s := 2) (m := 0) (Or.inl rfl) hR c2 q2 q1 (by omega) ((sa2 hR.1).trans (by rw [c2, if_pos w]; rfl)) (fun K hK => (rd_i2 hX hpt (by omega) hK).1), fun z => (rd_i2 (D := D) (nd := 0) (I := fun _ y => if y = 0 then 3 else if y = 2 then nI (16 * 0 + v) else 0) hX hpt (by omega) ⟨rfl, rfl, rfl, rfl, rfl, rfl⟩).2 z⟩
/-- what was read, in range -/
def Pr (nd id rm ln dt : Int32) (I' : Nat → Nat → Int32) : Prop := RS I' 0 nd id rm ln dt ∧ ∃ n i r l, n < 4 ∧ i ≤ 2047 ∧ r ≤ 1 ∧ l ≤ 4 ∧ nd = nI n ∧ id = nI i ∧ rm = nI r ∧ ln = nI l ∧ dOK r l dt
theorem rd_req (hX : lt127 t X) (hpt : p < t) (hs : I 294 0 = 0) : Gd D X t I p (qRq (hrN t X) p).1 (qRq (hrN t X) p).2.1 (Pr (qRq (hrN t X) p).2.2.1 (qRq (hrN t X) p).2.2.2.1 (qRq (hrN t X) p).2.2.2.2.1 (qRq (hrN t X) p).2.2.2.2.2.1 (qRq (hrN t X) p).2.2.2.2.2.2) := by
  unfold qRq
  rw [hrI hpt]
  obtain ⟨c, c1, c2⟩ := hX p hpt
  obtain ⟨n1, n2⟩ := q_nd c c1
  rw [← c2] at n1 n2
  by_cases g : (r11_in (X p - 48) 0 3) = true
  · rw [if_pos g]
    have w : r10_isWithin (X p) 48 51 = true := by rw [← n1]; exact g
    obtain ⟨v1, v2⟩ := n2 w
    obtain ⟨k1, k2⟩ := tk_of (D := D) (x := X p) (I := I) (y := 1) ((sa0 hs).trans (by rw [if_pos w])) (by decide)
    rw [kv0 hs] at k2
    have hR : RS (i7_take (X p) I D) 1 (X p - 48) 0 0 0 0 := by
      rw [k2]
      refine ⟨uI_self _ _ _ _, ?_, ?_, ?_, ?_, ?_⟩ <;> simp [uI_eq]
    refine Gd.step hpt k1 (by rw [hR.1]; decide) ?_
    by_cases g2 : hrN t X (p + 1) = 58
    · rw [if_pos g2]
      have hpt2 : p + 1 < t := Classical.byContradiction fun z => by rw [hrO z] at g2; exact q_m1.2.2.2.1 g2
      rw [hrI hpt2] at g2
      obtain ⟨l1, l2⟩ := tk_of (D := D) (x := X (p + 1)) (I := i7_take (X p) I D) (y := 2) ((sa1 hR.1).trans (by rw [if_pos g2])) (by decide)
      rw [kvn (Or.inl hR.1)] at l2
      have hR2 : RS (i7_take (X (p + 1)) (i7_take (X p) I D) D) 2 (X p - 48) 0 0 0 0 := by rw [l2]; exact hR.st
      refine Gd.step hpt2 l1 (by rw [hR2.1]; decide) ?_
      obtain ⟨m1, m2⟩ := rd_i3 (p := p + 2) hX hpt2 hR2
      rcases m1 with ⟨h1, K, h2, h3, h4, h5, h6⟩ | h
      · obtain ⟨i, i1, i2⟩ := m2 h1
        obtain ⟨l, r, a1, a2, a3, a4, a5⟩ := h6.2
        exact Or.inl ⟨h1, K, h2, h3, h4, h5, h6.1, _, i, r, l, by omega, i1, a2, a1, v2, i2, a4, a3, a5⟩
      · exact Or.inr h
    · rw [if_neg g2]
      exact Gd.no hpt (fun z => tk_no ((sa1 hR.1).trans (by rw [if_neg (fun q => g2 (by rw [hrI z]; exact q))])))
  · rw [if_neg g]
    exact Gd.no (by omega) (fun z => tk_no ((sa0 hs).trans (by rw [if_neg (fun q => g (by rw [n1]; exact q))])))
end RDQ
