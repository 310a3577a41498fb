/-! the text: faults and loading -/
section TXL
variable {b t tt p : Nat} {C J I I' : Nat → Nat → Int32} {D L : Nat → Nat → Int64} {X : Nat → Int32} {x : Int32}
theorem rn_row {a : Nat} (ha : a ≠ 294) : ∀ n p (I : Nat → Nat → Int32), rn D X n p I I' → I' a = I a := by
  intro n
  induction n with
  | zero => intro p I h; rw [show I' = I from h]
  | succ n ih => intro p I h; rw [ih _ _ h.2.2, x7_take ha]
theorem ff_rn {N : Nat} : ∀ n p (I : Nat → Nat → Int32), I 295 = X → rn D X n p I I' → r9_findFault_9 (N + n) p I D = r9_findFault_9 N (p + n) I' D := by
  intro n
  induction n with
  | zero => intro p I _ h; rw [show I' = I from h]; rfl
  | succ n ih =>
    intro p I hX h
    rw [show N + (n + 1) = (N + n) + 1 by omega]
    simp only [r9_findFault_9]
    rw [show I 295 p = X p by rw [hX], if_pos h.1, ih (p + 1) _ (by rw [x7_take (by decide)]; exact hX) h.2.2, show p + 1 + n = p + (n + 1) by omega]
theorem ff_q (hX : lt127 t X) : ∀ n p (I : Nat → Nat → Int32), t < n + p → p ≤ t → I 294 0 = 0 → I 295 = X → I 293 2 = nI t → r9_findFault_9 (t - p) p I D = qF (hrN t X) t n p := by
  intro n
  induction n with
  | zero => intro p I h1 h2; omega
  | succ n ih =>
    intro p I hn hp hs hX5 ht
    simp only [qF]
    by_cases g : t ≤ p
    · rw [if_pos g, show t - p = 0 by omega]
      simp only [r9_findFault_9]
      unfold r7_isBetweenRequests
      rw [if_pos hs, if_pos rfl]
    · rw [if_neg g]
      rcases rd_req (D := D) (p := p) (I := I) hX (by omega) hs with ⟨h1, K, h2, h3, h4, h5, h6⟩ | ⟨h1, K, h2, h3, h4, h5, h6, h7⟩
      · rw [if_pos h1]
        obtain ⟨q, hq⟩ : ∃ q, q = (qRq (hrN t X) p).2.1 := ⟨_, rfl⟩
        rw [← hq] at h2 h3 h4 ⊢
        rw [show t - p = (t - q) + (q - p) by omega, ff_rn _ _ _ hX5 h4, show p + (q - p) = q by omega]
        exact ih q K (by omega) h3 h5 (by rw [rn_row (by decide) _ _ _ h4]; exact hX5) (by rw [rn_row (by decide) _ _ _ h4]; exact ht)
      · rw [h1, if_neg (by decide)]
        obtain ⟨q, hq⟩ : ∃ q, q = (qRq (hrN t X) p).2.1 := ⟨_, rfl⟩
        rw [← hq] at h2 h3 h4 h5 h6 h7 ⊢
        rw [show t - p = (t - q) + (q - p) by omega, ff_rn _ _ _ hX5 h4, show p + (q - p) = q by omega]
        by_cases e : q < t
        · rw [show t - q = (t - q - 1) + 1 by omega]
          simp only [r9_findFault_9]
          rw [show K 295 q = X q by rw [rn_row (by decide) _ _ _ h4, hX5], h7 e, if_neg (by decide)]
        · rw [show t - q = 0 by omega]
          simp only [r9_findFault_9]
          unfold r7_isBetweenRequests
          rw [if_neg (h5 (by omega)), if_neg (by decide), rn_row (by decide) _ _ _ h4, ht, show q = t by omega]
theorem TX.hr (h : TX C J) : ∃ t, t ≤ 120 ∧ C 293 2 = nI t ∧ J 296 5 = nI t ∧ lt127 t (C 295) ∧ hrN t (C 295) = hrN t (J 301) := by
  obtain ⟨t, t1, t2, t3, t4⟩ := h
  refine ⟨t, t1, t2, t3, fun j hj => ?_, ?_⟩
  · obtain ⟨e, c, c1, c2⟩ := t4 j hj
    exact ⟨c, by omega, e.trans c2⟩
  · funext j
    by_cases g : j < t
    · rw [hrI g, hrI g]; exact (t4 j g).1
    · rw [hrO g, hrO g]
theorem ff_eq (h : TX C J) : r9_findFault C D = r11_faultOf J L := by
  obtain ⟨t, t1, t2, t3, t4, t5⟩ := h.hr
  rw [fo_r t1 t3, ← t5]
  unfold r9_findFault
  rw [t2, nI_clamp (by omega)]
  exact ff_q t4 121 0 _ (by omega) (by omega) (uI_self _ _ _ _) (x7_restart (by decide)) (by rw [x7_restart (by decide)]; exact t2)
theorem Z_faultPosition (h : REL b C D J) : r10_faultPosition C D = r11_faultPosition J L ∧ REL b (i10_faultPosition C D) D (i11_faultPosition J L) := by
  obtain ⟨t, t1, t2, t3, t4, t5⟩ := h.2.2.2.hr
  obtain ⟨k1, k2⟩ := fo_k (L := L) t1 t3
  obtain ⟨tt, h1, h2⟩ := h.1
  refine ⟨ff_eq h.2.2.2, h.of (Nat.le_refl _) ⟨tt, h1, ?_⟩ (fun a g => x9_findFault (by omega)) (fun _ _ _ => rfl) (fun a g1 g2 => k2 a (by omega) (by omega)) (k1 5 (by decide)) (k1 7 (by decide))⟩
  exact (h2.rows (fun a g1 g2 => ⟨x9_findFault (by omega), rfl⟩)).row (k2 297 (by decide) (by decide))
/-! to load -/
theorem qF_v : ∀ n p, p ≤ t → qF (hrN t X) t n p = (-5) ∨ ∃ q, q ≤ t ∧ qF (hrN t X) t n p = nI q := by
  intro n
  induction n with
  | zero => intro p _; exact Or.inr ⟨0, by omega, rfl⟩
  | succ n ih =>
    intro p hp
    simp only [qF]
    obtain ⟨q1, q2, -⟩ := qRq_pl (x := X) hp
    split
    · exact Or.inl rfl
    · split
      · exact ih _ q2
      · exact Or.inr ⟨_, q2, rfl⟩
theorem ld_rn {N : Nat} {z : Int32} : ∀ n p (I : Nat → Nat → Int32), I 295 = X → I' 294 0 = 0 → rn D X (n + 1) p I I' → r10_load_37 (N + (n + 1)) p z I D = r10_load_37 N (p + (n + 1)) (if (r10_requestRead I' D) = true then z + 1 else z) (i10_requestRead I' D) D ∧ i10_load_37 (N + (n + 1)) p z I D = i10_load_37 N (p + (n + 1)) (if (r10_requestRead I' D) = true then z + 1 else z) (i10_requestRead I' D) D := by
  intro n
  induction n with
  | zero =>
    intro p I hX h0 h
    rw [show N + (0 + 1) = N + 1 by omega]
    simp only [r10_load_37, i10_load_37]
    have e : i7_take (r9_letterAt p I D) I D = I' := by
      unfold r9_letterAt
      rw [show I 295 p = X p by rw [hX]]
      exact h.2.2.symm
    rw [e]
    unfold r7_isBetweenRequests
    rw [if_pos h0]
    simp only [if_pos]
    exact ⟨trivial, trivial⟩
  | succ n ih =>
    intro p I hX h0 h
    rw [show N + (n + 1 + 1) = (N + (n + 1)) + 1 by omega]
    simp only [r10_load_37, i10_load_37]
    have e : r9_letterAt p I D = X p := by unfold r9_letterAt; rw [hX]
    have nb : ¬ (r7_isBetweenRequests (i7_take (X p) I D) D) = true := by
      unfold r7_isBetweenRequests
      rw [if_neg (h.2.1 (by omega))]
      decide
    rw [e]
    simp only [if_neg nb]
    have q := ih (p + 1) (i7_take (X p) I D) (by rw [x7_take (by decide)]; exact hX) h0 h.2.2
    rw [show p + (n + 1 + 1) = p + 1 + (n + 1) by omega]
    exact q
theorem ld_K (ht8 : t ≤ 120) (hX : lt127 t X) : ∀ m p (z : Int32) (C J : Nat → Nat → Int32), t < m + p → p ≤ t → qF (hrN t X) t m p = (-5) → C 294 0 = 0 → C 295 = X → J 296 5 = nI t → J 296 9 = nI p → hrN t (J 301) = hrN t X → BR tt 1 C D J → BR tt 1 (i10_load_37 (t - p) p z C D) D (i11_load_22 m z J L) ∧ r10_load_37 (t - p) p z C D = r11_load_22 m z J L ∧ (∀ a, (a < 1 ∨ 71 < a) → a ≠ 294 → (i10_load_37 (t - p) p z C D) a = C a) ∧ (∀ a, a ≠ 296 → a ≠ 297 → a ≠ 304 → (i11_load_22 m z J L) a = J a) ∧ ∀ y, y ≠ 9 → (i11_load_22 m z J L) 296 y = J 296 y := by
  intro m
  induction m with
  | zero => intro p z C J h1 h2; omega
  | succ m ih =>
    intro p z C J hm hp hq hs hX5 h5 h9 h301 hB
    simp only [i11_load_22, r11_load_22]
    rw [h5, h9]
    by_cases g : t ≤ p
    · rw [if_pos (nI_le g (by omega)), if_pos (nI_le g (by omega)), show t - p = 0 by omega]
      exact ⟨hB, rfl, fun _ _ _ => rfl, fun _ _ _ _ => rfl, fun _ _ => rfl⟩
    · rw [if_neg (nI_ge (by omega) (by omega)), if_neg (nI_ge (by omega) (by omega))]
      simp only [qF] at hq
      rw [if_neg g] at hq
      have hok : (qRq (hrN t X) p).1 = true := by
        obtain ⟨-, q2, -⟩ := qRq_pl (x := X) hp
        refine Classical.byContradiction fun w => ?_
        rw [if_neg w] at hq
        have := congrArg Int32.toInt hq
        rw [nI_toInt (by omega)] at this
        have e5 : Int32.toInt (-5) = -5 := by decide
        omega
      rw [if_pos hok] at hq
      obtain ⟨r1, r2, r3, r4⟩ := req_h (L := L) ht8 (by omega) h5 h9
      rw [h301] at r1 r2 r3
      have r3 := r3 hok
      rcases rd_req (D := D) (p := p) (I := C) hX (by omega) hs with ⟨-, K, h2, h3, h4, h6, h7⟩ | ⟨w, -⟩
      · obtain ⟨q, hqq⟩ : ∃ q, q = (qRq (hrN t X) p).2.1 := ⟨_, rfl⟩
        rw [← hqq] at h2 h3 h4 r2 hq
        obtain ⟨⟨s0, s1, s2, s3, s4, s5⟩, n, i, r, l, n4, i1, r1', l1, en, ei, er, el, hd⟩ := h7
        rw [en] at s1 r3
        rw [ei] at s2 r3
        rw [er] at s3 r3
        rw [el] at s4 r3
        obtain ⟨dd, hdd⟩ : ∃ dd, dd = (qRq (hrN t X) p).2.2.2.2.2.2 := ⟨_, rfl⟩
        rw [← hdd] at s5 r3 hd
        have lr := ld_rn (D := D) (X := X) (I' := K) (N := t - q) (z := z) (q - p - 1) p C hX5 h6 (by rw [show q - p - 1 + 1 = q - p by omega]; exact h4)
        rw [show q - p - 1 + 1 = q - p by omega, show t - q + (q - p) = t - p by omega, show p + (q - p) = q by omega] at lr
        have rowK : ∀ a, a ≠ 294 → K a = C a := fun a ha => rn_row ha _ _ _ h4
        have BK : BR tt 1 K D (i11_isRequest J L) := (hB.rows (fun a g1 g2 => ⟨rowK a (by omega), rfl⟩)).row (r4.2 297 (by decide) (by decide))
        have nn : r10_isNode (K 294 1) = true := by rw [s1]; exact (by decide : ∀ n, n < 4 → r10_isNode (nI n) = true) n n4
        have rN : rmN (nI r) = r := (by decide : ∀ r, r ≤ 1 → rmN (nI r) = r) r r1'
        obtain ⟨k1, k2⟩ := enq_K (L := L) n4 i1 r1' l1 hd BK
        have eR : r10_requestRead K D = r6_enqueue (4 + 16 * n) 2 (nI (2 * i + r)) (nI l) dd K D := by
          unfold r10_requestRead
          rw [if_pos nn, s1, nI_clamp (by omega), s2, s3, s4, s5, keyO, rN]
        have eI : i10_requestRead K D = i6_enqueue (4 + 16 * n) 2 (nI (2 * i + r)) (nI l) dd K D := by
          unfold i10_requestRead
          rw [if_pos nn, s1, nI_clamp (by omega), s2, s3, s4, s5, keyO, rN]
        rw [lr.1, lr.2, eR, eI, r1, if_pos hok, if_pos hok, r3.1, nI_clamp (by omega), r3.2.1, r3.2.2.1, r3.2.2.2.1, r3.2.2.2.2]
        obtain ⟨C2, hC2⟩ : ∃ C2, C2 = i6_enqueue (4 + 16 * n) 2 (nI (2 * i + r)) (nI l) dd K D := ⟨_, rfl⟩
        rw [← hC2] at k2 ⊢
        have cC : ∀ a, (a < 1 ∨ 71 < a) → a ≠ 294 → C2 a = C a := fun a g1 g2 => (k2.2.1 a g1).trans (rowK a g2)
        by_cases gr : r11_isRoom n (i11_isRequest J L) L = true
        · rw [if_pos gr] at k2
          rw [if_pos gr, if_pos gr, if_pos (k1.mpr gr)]
          have jj : ∀ a, a ≠ 297 → (i11_waits n (nI i) (nI r) (nI l) dd (i11_isRequest J L) L) a = (i11_isRequest J L) a := fun a ha => k2.2.2.2 a ha
          obtain ⟨u1, u2, u3, u4, u5⟩ := ih q (z + 1) C2 (i11_waits n (nI i) (nI r) (nI l) dd (i11_isRequest J L) L) (by omega) h3 hq (by rw [k2.2.1 294 (by omega)]; exact s0) (by rw [cC 295 (by omega) (by decide)]; exact hX5) (by rw [jj 296 (by decide), r4.1 5 (by decide)]; exact h5) (by rw [jj 296 (by decide)]; exact r2) (by rw [jj 301 (by decide), r4.2 301 (by decide) (by decide)]; exact h301) k2.1
          exact ⟨u1, u2, fun a g1 g2 => (u3 a g1 g2).trans (cC a g1 g2), fun a g1 g2 g3 => (u4 a g1 g2 g3).trans ((jj a g2).trans (r4.2 a g1 g3)), fun y hy => (u5 y hy).trans (by rw [jj 296 (by decide)]; exact r4.1 y hy)⟩
        · rw [if_neg gr] at k2
          rw [if_neg gr, if_neg gr, if_neg (fun w => gr (k1.mp w))]
          obtain ⟨u1, u2, u3, u4, u5⟩ := ih q z C2 (i11_isRequest J L) (by omega) h3 hq (by rw [k2.2.1 294 (by omega)]; exact s0) (by rw [cC 295 (by omega) (by decide)]; exact hX5) (by rw [r4.1 5 (by decide)]; exact h5) r2 (by rw [r4.2 301 (by decide) (by decide)]; exact h301) k2.1
          exact ⟨u1, u2, fun a g1 g2 => (u3 a g1 g2).trans (cC a g1 g2), fun a g1 g2 g3 => (u4 a g1 g2 g3).trans (r4.2 a g1 g3), fun y hy => (u5 y hy).trans (r4.1 y hy)⟩
      · rw [hok] at w; cases w
theorem Z_load (h : REL b C D J) : r10_load C D = r11_load J L ∧ REL b (i10_load C D) D (i11_load J L) ∧ (∀ a, 296 ≤ a → (i10_load C D) a = C a) ∧ ∀ a, a < 296 → (i11_load J L) a = J a := by
  obtain ⟨t, t1, t2, t3, t4, t5⟩ := h.2.2.2.hr
  have fe := ff_eq (D := D) (L := L) h.2.2.2
  have fq := fo_r (L := L) t1 t3
  rw [← t5] at fq
  obtain ⟨k1, k2⟩ := fo_k (L := L) t1 t3
  obtain ⟨tt, h1, h2⟩ := h.1
  unfold r10_load r11_load i10_load i11_load
  rw [fe]
  rcases qF_v (t := t) (X := C 295) 121 0 (by omega) with q | ⟨q, q1, q2⟩
  · have m5 : r11_faultOf J L = (-5) := fq.trans q
    rw [m5, if_pos rfl, if_pos rfl, if_pos (by decide), if_pos (by decide), t2, nI_clamp (by omega)]
    have oC : ∀ a, a ≠ 294 → (i7_restart (i9_findFault C D) D) a = C a := fun a ha => by rw [x7_restart ha, x9_findFault ha]
    have oJ : ∀ a, a ≠ 296 → a ≠ 304 → (uI (i11_faultOf J L) 296 9 0) a = J a := fun a g1 g2 => by rw [uI_off _ _ _ g1]; exact k2 a g1 g2
    have oJ6 : ∀ y, y ≠ 9 → (uI (i11_faultOf J L) 296 9 0) 296 y = J 296 y := fun y hy => by rw [uI_ne _ _ _ hy]; exact k1 y hy
    obtain ⟨u1, u2, u3, u4, u5⟩ := ld_K (D := D) (L := L) (tt := tt) t1 t4 121 0 0 (i7_restart (i9_findFault C D) D) (uI (i11_faultOf J L) 296 9 0) (by omega) (by omega) q (uI_self _ _ _ _) (oC 295 (by decide)) ((oJ6 5 (by decide)).trans t3) (uI_self _ _ _ _) (by rw [oJ 301 (by decide) (by decide), t5]) ((h2.rows (fun a g1 g2 => ⟨oC a (by omega), rfl⟩)).row (oJ 297 (by decide) (by decide)))
    rw [Nat.sub_zero] at u1 u2 u3
    exact ⟨u2, h.of (Nat.le_refl _) ⟨tt, h1, u1⟩ (fun a g => (u3 a (by omega) (by omega)).trans (oC a (by omega))) (fun _ _ _ => rfl) (fun a g1 g2 => (u4 a (by omega) (by omega) (by omega)).trans (oJ a (by omega) (by omega))) ((u5 5 (by decide)).trans (oJ6 5 (by decide))) ((u5 7 (by decide)).trans (oJ6 7 (by decide))), fun a ha => (u3 a (by omega) (by omega)).trans (oC a (by omega)), fun a ha => (u4 a (by omega) (by omega) (by omega)).trans (oJ a (by omega) (by omega))⟩
  · have mq : r11_faultOf J L = nI q := fq.trans q2
    have n5 : ¬ nI q = (-5) := fun w => by
      have := congrArg Int32.toInt w
      rw [nI_toInt (by omega)] at this
      have e5 : Int32.toInt (-5) = -5 := by decide
      omega
    rw [mq, if_neg n5, if_neg n5, if_neg (nI_pos (by omega)), if_neg (nI_pos (by omega))]
    refine ⟨rfl, (Z_faultPosition (L := L) h).2, fun a ha => x9_findFault (by omega), fun a ha => k2 a (by omega) (by omega)⟩
/-! to append and clear -/
theorem Z_append (h : REL b C D J) : r10_append x C D = r11_append x J L ∧ REL b (i10_append x C D) D (i11_append x J L) := by
  unfold r10_append r11_append i10_append i11_append
  by_cases g : r10_isWithin x 0 127 = true
  · have g' : r11_in x 0 127 = true := g
    obtain ⟨c, c1, -, rfl⟩ := within_nat (a := 0) (b := 127) (by decide) (by decide) g
    rw [if_pos g, if_pos g', if_pos g, if_pos g']
    obtain ⟨n, n1, n2, n3, n4⟩ := h.2.2.2
    unfold r9_add i9_add
    rw [n2, n3, nI_clamp (by omega)]
    by_cases g1 : n = 120
    · subst g1
      rw [if_neg (show ¬ nI 120 < 120 by decide), if_neg (show ¬ nI 120 < 120 by decide), if_neg (by decide), if_pos (show nI 120 = 120 by decide), if_pos (show nI 120 = 120 by decide)]
      exact ⟨rfl, h⟩
    · have l1 : nI n < 120 := nI_lt (b := 120) (by omega) (by omega)
      have l2 : ¬ nI n = 120 := fun z => g1 ((nI_eq (b := 120) (by omega) (by omega)).mp z)
      rw [if_pos l1, if_pos l1, if_pos rfl, if_neg l2, if_neg l2, nI_1]
      refine ⟨uI_self _ _ _ _, ?_, h.2.1.of (Nat.le_refl _) (fun a g1 g2 => ?_) (fun _ _ _ => rfl) ?_ ?_, h.2.2.1.of (fun a g1 g2 => ?_) ?_ ?_, n + 1, by omega, uI_self _ _ _ _, uI_self _ _ _ _, fun j hj => ?_⟩
      · obtain ⟨tt, h1, h2⟩ := h.1
        exact ⟨tt, h1, (h2.rows (fun a g1 g2 => ⟨by rw [uI_off _ _ _ (by omega), uI_off _ _ _ (by omega)], rfl⟩)).row (by rw [uI_off _ _ _ (by decide), uI_off _ _ _ (by decide)])⟩
      · rw [uI_off _ _ _ (by omega), uI_off _ _ _ (by omega)]
      · rw [uI_off _ _ _ (by decide), uI_off _ _ _ (by decide)]
      · rw [uI_off _ _ _ (by decide), uI_off _ _ _ (by decide)]
      · rw [uI_off _ _ _ (by omega), uI_off _ _ _ (by omega)]
      · rw [uI_ne _ _ _ (by decide), uI_off _ _ _ (by decide)]
      · rw [uI_off _ _ _ (by decide), uI_off _ _ _ (by decide)]
      · rw [uI_off _ _ _ (show 295 ≠ 293 by decide), uI_off _ _ _ (show 301 ≠ 296 by decide), uI_eq, uI_eq]
        by_cases e : j = n
        · rw [if_pos ⟨rfl, e⟩, if_pos ⟨rfl, e⟩]; exact ⟨rfl, c, c1, rfl⟩
        · rw [if_neg (fun z => e z.2), if_neg (fun z => e z.2)]; exact n4 j (by omega)
  · have g' : ¬ r11_in x 0 127 = true := g
    rw [if_neg g, if_neg g', if_neg g, if_neg g']
    exact ⟨rfl, h⟩
theorem Z_clearText (h : REL b C D J) : r10_clearText C D = r11_clearText J L ∧ REL b (i10_clearText C D) D (i11_clearText J L) := by
  unfold r10_clearText r11_clearText i10_clearText i11_clearText
  obtain ⟨n, n1, n2, n3, n4⟩ := h.2.2.2
  refine ⟨n2.trans n3.symm, ?_, h.2.1.of (Nat.le_refl _) (fun a g1 g2 => uI_off _ _ _ (by omega)) (fun _ _ _ => rfl) (uI_off _ _ _ (by decide)) (uI_off _ _ _ (by decide)), h.2.2.1.of (fun a g1 g2 => uI_off _ _ _ (by omega)) (uI_ne _ _ _ (by decide)) (uI_off _ _ _ (by decide)), 0, by omega, uI_self _ _ _ _, uI_self _ _ _ _, fun j hj => absurd hj (by omega)⟩
  obtain ⟨tt, h1, h2⟩ := h.1
  exact ⟨tt, h1, (h2.rows (fun a g1 g2 => ⟨uI_off _ _ _ (by omega), rfl⟩)).row (uI_off _ _ _ (by decide))⟩
end TXL
