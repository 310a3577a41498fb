/-! one request of the text: what the reference reads -/
def hrN (t : Nat) (x : Nat → Int32) (p : Nat) : Int32 := if p < t then x p else (-1)
theorem here_h {t p : Nat} {I : Nat → Nat → Int32} {L : Nat → Nat → Int64} (ht8 : t ≤ 120) (hp8 : p < 1000) (ht : I 296 5 = nI t) (hp : I 296 9 = nI p) : r11_here I L = hrN t (I 301) p := by
  unfold r11_here hrN
  rw [ht, hp, nI_clamp (by omega), nI_clamp (by omega)]
  by_cases h : p < t
  · rw [if_neg (nI_ge h (by omega)), if_pos h]
  · rw [if_pos (nI_le (by omega) (by omega)), if_neg h]
theorem here_304 {I : Nat → Nat → Int32} {L : Nat → Nat → Int64} {j : Nat} {x : Int32} : r11_here (uI I 304 j x) L = r11_here I L := by
  unfold r11_here
  rw [uI_off _ _ _ (show (296 : Nat) ≠ 304 by decide), uI_off _ _ _ (show (301 : Nat) ≠ 304 by decide)]
theorem here_at {t q : Nat} {I : Nat → Nat → Int32} {L : Nat → Nat → Int64} (ht8 : t ≤ 120) (hq8 : q < 1000) (ht : I 296 5 = nI t) : r11_here (uI I 296 9 (nI q)) L = hrN t (I 301) q := by
  rw [here_h ht8 hq8 (by rw [uI_ne _ _ _ (by decide)]; exact ht) (uI_self _ _ _ _), uI_off _ _ _ (show (301 : Nat) ≠ 296 by decide)]
def qEnd (h : Nat → Int32) (j p : Nat) (d : Int32) : Bool × Nat × Int32 × Int32 := if nI j - nI j / 2 * 2 = 1 then (false, p, nI j / 2, d) else if h p = 59 then (true, p + 1, nI j / 2, d) else (false, p, nI j / 2, d)
def q217 (h : Nat → Int32) : Nat → Nat → Nat → Int32 → Bool × Nat × Int32 × Int32
  | 0, j, p, d => qEnd h j p d
  | n + 1, j, p, d => if r11_hex (h p) < 0 then qEnd h j p d else q217 h n (j + 1) (p + 1) ((d <<< (4 &&& 31)) ||| (r11_hex (h p)))
def q60 (h : Nat → Int32) : Nat → Nat → Nat → Int32 → Bool × Nat × Int32 × Int32 × Int32 × Int32
  | 0, _, p, z => if h p = 35 then (if h (p + 1) = 82 then (if (r11_in (h (p + 2) - 48) 0 4) = true then (if h (p + 3) = 59 then (true, p + 4, z, 1, h (p + 2) - 48, 0) else (false, p + 3, z, 1, h (p + 2) - 48, 0)) else (false, p + 2, z, 1, h (p + 2) - 48, 0)) else ((q217 h 8 0 (p + 1) 0).1, (q217 h 8 0 (p + 1) 0).2.1, z, 0, (q217 h 8 0 (p + 1) 0).2.2)) else (false, p, z, 0, 0, 0)
  | n + 1, k, p, z => if (r11_hex (h p) < 0) ∨ ((nI k = 0) ∧ (¬ (r11_hex (h p) ≤ 7))) then (false, p, z, 0, 0, 0) else q60 h n (k + 1) (p + 1) (((16 : Int32) * z) + (r11_hex (h p)))
/-- whether it is as told, the place behind it, node, identifier, remote, length, data -/
def qRq (h : Nat → Int32) (p : Nat) : Bool × Nat × Int32 × Int32 × Int32 × Int32 × Int32 := if (r11_in (h p - 48) 0 3) = true then (if h (p + 1) = 58 then ((q60 h 3 0 (p + 2) 0).1, (q60 h 3 0 (p + 2) 0).2.1, h p - 48, (q60 h 3 0 (p + 2) 0).2.2) else (false, p + 1, h p - 48, 0, 0, 0, 0)) else (false, p, h p - 48, 0, 0, 0, 0)
/-- what stays -/
def rqK (I J : Nat → Nat → Int32) : Prop := (∀ b, b ≠ 9 → J 296 b = I 296 b) ∧ ∀ a, a ≠ 296 → a ≠ 304 → J a = I a
theorem rqK.rf (I : Nat → Nat → Int32) : rqK I I := ⟨fun _ _ => rfl, fun _ _ _ => rfl⟩
theorem rqK.tr {I J K : Nat → Nat → Int32} (h : rqK I J) (k : rqK J K) : rqK I K := ⟨fun b hb => (k.1 b hb).trans (h.1 b hb), fun a h1 h2 => (k.2 a h1 h2).trans (h.2 a h1 h2)⟩
theorem rqK.told (I : Nat → Nat → Int32) (j : Nat) (x : Int32) : rqK I (uI I 304 j x) := ⟨fun b _ => by rw [uI_off _ _ _ (by decide)], fun a _ h2 => uI_off _ _ _ h2⟩
theorem rqK.plc (I : Nat → Nat → Int32) (x : Int32) : rqK I (uI I 296 9 x) := ⟨fun b hb => uI_ne _ _ _ hb, fun a h1 _ => uI_off _ _ _ h1⟩
theorem req217 {t : Nat} (ht8 : t ≤ 120) {L : Nat → Nat → Int64} : ∀ (n j p : Nat) (I : Nat → Nat → Int32), I 296 5 = nI t → I 296 9 = nI p → p + n < 500 →
    r11_isRequest_217 n j p I L = (q217 (hrN t (I 301)) n j p (I 304 4)).1 ∧ (i11_isRequest_217 n j p I L) 296 9 = nI (q217 (hrN t (I 301)) n j p (I 304 4)).2.1 ∧ (i11_isRequest_217 n j p I L) 304 3 = (q217 (hrN t (I 301)) n j p (I 304 4)).2.2.1 ∧ (i11_isRequest_217 n j p I L) 304 4 = (q217 (hrN t (I 301)) n j p (I 304 4)).2.2.2 ∧ (∀ b, b < 3 → (i11_isRequest_217 n j p I L) 304 b = I 304 b) ∧ rqK I (i11_isRequest_217 n j p I L) := by
  intro n
  have fin : ∀ (j p : Nat) (I : Nat → Nat → Int32), I 296 5 = nI t → I 296 9 = nI p → p < 500 → ∀ (b : Bool) (J : Nat → Nat → Int32), b = (if (nI j) - (nI j) / 2 * 2 = 1 then false else (if r11_here (uI I 304 3 ((nI j) / 2)) L = 59 then true else false)) → J = (if (nI j) - (nI j) / 2 * 2 = 1 then uI I 304 3 ((nI j) / 2) else (if r11_here (uI I 304 3 ((nI j) / 2)) L = 59 then uI (uI I 304 3 ((nI j) / 2)) 296 9 (nI (p + 1)) else uI I 304 3 ((nI j) / 2))) →
      b = (qEnd (hrN t (I 301)) j p (I 304 4)).1 ∧ J 296 9 = nI (qEnd (hrN t (I 301)) j p (I 304 4)).2.1 ∧ J 304 3 = (qEnd (hrN t (I 301)) j p (I 304 4)).2.2.1 ∧ J 304 4 = (qEnd (hrN t (I 301)) j p (I 304 4)).2.2.2 ∧ (∀ b, b < 3 → J 304 b = I 304 b) ∧ rqK I J := by
    intro j p I ht hp hp8 b J hb hJ
    rw [here_304, here_h ht8 (by omega) ht hp] at hb hJ
    unfold qEnd
    have k1 := rqK.told I 3 (nI j / 2)
    have a1 : uI I 304 3 (nI j / 2) 296 9 = nI p := by rw [uI_off _ _ _ (show (296 : Nat) ≠ 304 by decide)]; exact hp
    by_cases h1 : (nI j) - (nI j) / 2 * 2 = 1
    · rw [if_pos h1] at hb hJ ⊢
      subst hb; subst hJ
      exact ⟨rfl, a1, uI_self _ _ _ _, uI_ne _ _ _ (by decide), fun b hb => uI_ne _ _ _ (by omega), k1⟩
    · rw [if_neg h1] at hb hJ ⊢
      by_cases h2 : hrN t (I 301) p = 59
      · rw [if_pos h2] at hb hJ ⊢
        subst hb; subst hJ
        refine ⟨rfl, uI_self _ _ _ _, ?_, ?_, fun b hb => ?_, k1.tr (rqK.plc _ _)⟩
        · rw [uI_off _ _ _ (by decide), uI_self]
        · rw [uI_off _ _ _ (by decide), uI_ne _ _ _ (by decide)]
        · rw [uI_off _ _ _ (by decide), uI_ne _ _ _ (by omega)]
      · rw [if_neg h2] at hb hJ ⊢
        subst hb; subst hJ
        exact ⟨rfl, a1, uI_self _ _ _ _, uI_ne _ _ _ (by decide), fun b hb => uI_ne _ _ _ (by omega), k1⟩
  induction n with
  | zero =>
    intro j p I ht hp hp8
    exact fin j p I ht hp (by omega) _ _ rfl rfl
  | succ n ih =>
    intro j p I ht hp hp8
    have hh : r11_here I L = hrN t (I 301) p := here_h ht8 (by omega) ht hp
    by_cases h1 : r11_hex (hrN t (I 301) p) < 0
    · have e : q217 (hrN t (I 301)) (n + 1) j p (I 304 4) = qEnd (hrN t (I 301)) j p (I 304 4) := by simp only [q217]; rw [if_pos h1]
      rw [e]
      refine fin j p I ht hp (by omega) _ _ ?_ ?_
      · simp only [r11_isRequest_217]; rw [hh, if_pos h1]
      · simp only [i11_isRequest_217]; rw [hh, if_pos h1]
    · have e : q217 (hrN t (I 301)) (n + 1) j p (I 304 4) = q217 (hrN t (I 301)) n (j + 1) (p + 1) (((I 304 4) <<< (4 &&& 31)) ||| (r11_hex (hrN t (I 301) p))) := by simp only [q217]; rw [if_neg h1]
      rw [e]
      simp only [r11_isRequest_217, i11_isRequest_217]
      rw [hh, if_neg h1, if_neg h1]
      have hk : rqK I (uI (uI I 304 4 (((I 304 4) <<< (4 &&& 31)) ||| (r11_hex (hrN t (I 301) p)))) 296 9 (nI (p + 1))) := (rqK.told I 4 _).tr (rqK.plc _ _)
      have q := ih (j + 1) (p + 1) (uI (uI I 304 4 (((I 304 4) <<< (4 &&& 31)) ||| (r11_hex (hrN t (I 301) p)))) 296 9 (nI (p + 1))) ((hk.1 5 (by decide)).trans ht) (uI_self _ _ _ _) (by omega)
      rw [hk.2 301 (by decide) (by decide), uI_off _ _ _ (show (304 : Nat) ≠ 296 by decide), uI_self] at q
      obtain ⟨q1, q2, q3, q4, q5, q6⟩ := q
      refine ⟨q1, q2, q3, q4, fun b hb => (q5 b hb).trans ?_, hk.tr q6⟩
      rw [uI_ne _ _ _ (by omega)]
theorem here_K {t q : Nat} {I M : Nat → Nat → Int32} {L : Nat → Nat → Int64} (ht8 : t ≤ 120) (hq8 : q < 1000) (ht : I 296 5 = nI t) (hk : rqK I M) : r11_here (uI M 296 9 (nI q)) L = hrN t (I 301) q := by
  rw [here_at ht8 hq8 ((hk.1 5 (by decide)).trans ht), hk.2 301 (by decide) (by decide)]
theorem req60 {t : Nat} (ht8 : t ≤ 120) {L : Nat → Nat → Int64} : ∀ (n k p : Nat) (I : Nat → Nat → Int32), I 296 5 = nI t → I 296 9 = nI p → p + n < 400 →
    r11_isRequest_60 n k p I L = (q60 (hrN t (I 301)) n k p (I 304 1)).1 ∧ (i11_isRequest_60 n k p I L) 296 9 = nI (q60 (hrN t (I 301)) n k p (I 304 1)).2.1 ∧ ((q60 (hrN t (I 301)) n k p (I 304 1)).1 = true → (i11_isRequest_60 n k p I L) 304 1 = (q60 (hrN t (I 301)) n k p (I 304 1)).2.2.1 ∧ (i11_isRequest_60 n k p I L) 304 2 = (q60 (hrN t (I 301)) n k p (I 304 1)).2.2.2.1 ∧ (i11_isRequest_60 n k p I L) 304 3 = (q60 (hrN t (I 301)) n k p (I 304 1)).2.2.2.2.1 ∧ (i11_isRequest_60 n k p I L) 304 4 = (q60 (hrN t (I 301)) n k p (I 304 1)).2.2.2.2.2) ∧ (i11_isRequest_60 n k p I L) 304 0 = I 304 0 ∧ rqK I (i11_isRequest_60 n k p I L) := by
  intro n
  induction n with
  | zero =>
    intro k p I ht hp hp8
    have hh : r11_here I L = hrN t (I 301) p := here_h ht8 (by omega) ht hp
    simp only [r11_isRequest_60, i11_isRequest_60, q60]
    rw [hh]
    by_cases h1 : hrN t (I 301) p = 35
    · rw [if_pos h1, if_pos h1, if_pos h1, here_K ht8 (by omega) ht (rqK.rf I)]
      by_cases h2 : hrN t (I 301) (p + 1) = 82
      · rw [if_pos h2, if_pos h2, if_pos (show bI true = 1 from rfl), if_pos (show bI true = 1 from rfl)]
        have hk : rqK I (uI (uI (uI (uI I 296 9 (nI (p + 1))) 304 2 (bI true)) 304 3 0) 304 4 0) := (((rqK.plc I _).tr (rqK.told _ 2 _)).tr (rqK.told _ 3 _)).tr (rqK.told _ 4 _)
        rw [here_K ht8 (by omega) ht hk]
        by_cases h3 : (r11_in (hrN t (I 301) (p + 2) - 48) 0 4) = true
        · rw [if_pos h3, if_pos h3, if_pos h3, here_K ht8 (by omega) ht ((hk.tr (rqK.plc _ _)).tr (rqK.told _ 3 _))]
          by_cases h4 : hrN t (I 301) (p + 3) = 59
          · rw [if_pos h4, if_pos h4, if_pos h4]
            refine ⟨rfl, uI_self _ _ _ _, fun _ => ⟨?_, ?_, ?_, ?_⟩, ?_, (((hk.tr (rqK.plc _ _)).tr (rqK.told _ 3 _)).tr (rqK.plc _ _)).tr (rqK.plc _ _)⟩
            · simp [uI_eq]
            · simp [uI_eq, bI]
            · simp [uI_eq]
            · simp [uI_eq]
            · simp [uI_eq]
          · rw [if_neg h4, if_neg h4, if_neg h4]
            exact ⟨rfl, uI_self _ _ _ _, fun h => (Bool.false_ne_true h).elim, by simp [uI_eq], ((hk.tr (rqK.plc _ _)).tr (rqK.told _ 3 _)).tr (rqK.plc _ _)⟩
        · rw [if_neg h3, if_neg h3, if_neg h3]
          exact ⟨rfl, by simp [uI_eq], fun h => (Bool.false_ne_true h).elim, by simp [uI_eq], (hk.tr (rqK.plc _ _)).tr (rqK.told _ 3 _)⟩
      · rw [if_neg h2, if_neg h2, if_neg (show ¬ bI false = 1 by decide), if_neg (show ¬ bI false = 1 by decide)]
        have hk : rqK I (uI (uI (uI (uI I 296 9 (nI (p + 1))) 304 2 (bI false)) 304 3 0) 304 4 0) := (((rqK.plc I _).tr (rqK.told _ 2 _)).tr (rqK.told _ 3 _)).tr (rqK.told _ 4 _)
        have q := req217 ht8 (L := L) 8 0 (p + 1) _ ((hk.1 5 (by decide)).trans ht) (by simp [uI_eq]) (by omega)
        rw [hk.2 301 (by decide) (by decide), uI_self] at q
        obtain ⟨q1, q2, q3, q4, q5, q6⟩ := q
        refine ⟨q1, q2, fun _ => ⟨(q5 1 (by decide)).trans ?_, (q5 2 (by decide)).trans ?_, q3, q4⟩, (q5 0 (by decide)).trans ?_, hk.tr q6⟩
        · simp [uI_eq]
        · simp [uI_eq, bI]
        · simp [uI_eq]
    · rw [if_neg h1, if_neg h1, if_neg h1]
      exact ⟨rfl, hp, fun h => (Bool.false_ne_true h).elim, rfl, rqK.rf I⟩
  | succ n ih =>
    intro k p I ht hp hp8
    have hh : r11_here I L = hrN t (I 301) p := here_h ht8 (by omega) ht hp
    simp only [r11_isRequest_60, i11_isRequest_60, q60]
    rw [hh]
    by_cases h1 : (r11_hex (hrN t (I 301) p) < 0) ∨ ((nI k = 0) ∧ (¬ (r11_hex (hrN t (I 301) p) ≤ 7)))
    · rw [if_pos h1, if_pos h1, if_pos h1]
      exact ⟨rfl, hp, fun h => (Bool.false_ne_true h).elim, rfl, rqK.rf I⟩
    · rw [if_neg h1, if_neg h1, if_neg h1]
      have hk : rqK I (uI (uI I 304 1 (((16 : Int32) * (I 304 1)) + (r11_hex (hrN t (I 301) p)))) 296 9 (nI (p + 1))) := (rqK.told I 1 _).tr (rqK.plc _ _)
      have q := ih (k + 1) (p + 1) _ ((hk.1 5 (by decide)).trans ht) (uI_self _ _ _ _) (by omega)
      rw [hk.2 301 (by decide) (by decide), uI_off _ _ _ (show (304 : Nat) ≠ 296 by decide), uI_self] at q
      obtain ⟨q1, q2, q3, q4, q5⟩ := q
      exact ⟨q1, q2, q3, q4.trans (uI_ne _ _ _ (by decide)), hk.tr q5⟩
theorem req_h {t p : Nat} {I : Nat → Nat → Int32} {L : Nat → Nat → Int64} (ht8 : t ≤ 120) (hp8 : p < 300) (ht : I 296 5 = nI t) (hp : I 296 9 = nI p) :
    r11_isRequest I L = (qRq (hrN t (I 301)) p).1 ∧ (i11_isRequest I L) 296 9 = nI (qRq (hrN t (I 301)) p).2.1 ∧ ((qRq (hrN t (I 301)) p).1 = true → (i11_isRequest I L) 304 0 = (qRq (hrN t (I 301)) p).2.2.1 ∧ (i11_isRequest I L) 304 1 = (qRq (hrN t (I 301)) p).2.2.2.1 ∧ (i11_isRequest I L) 304 2 = (qRq (hrN t (I 301)) p).2.2.2.2.1 ∧ (i11_isRequest I L) 304 3 = (qRq (hrN t (I 301)) p).2.2.2.2.2.1 ∧ (i11_isRequest I L) 304 4 = (qRq (hrN t (I 301)) p).2.2.2.2.2.2) ∧ rqK I (i11_isRequest I L) := by
  have hh : r11_here I L = hrN t (I 301) p := here_h ht8 (by omega) ht hp
  unfold r11_isRequest i11_isRequest qRq
  rw [hh, hp, nI_clamp (by omega)]
  by_cases h1 : (r11_in (hrN t (I 301) p - 48) 0 3) = true
  · rw [if_pos h1, if_pos h1, if_pos h1, here_K ht8 (by omega) ht (rqK.told I 0 _)]
    by_cases h2 : hrN t (I 301) (p + 1) = 58
    · rw [if_pos h2, if_pos h2, if_pos h2]
      have hk : rqK I (uI (uI (uI (uI I 304 0 (hrN t (I 301) p - 48)) 296 9 (nI (p + 1))) 296 9 (nI (p + 2))) 304 1 0) := (((rqK.told I 0 _).tr (rqK.plc _ _)).tr (rqK.plc _ _)).tr (rqK.told _ 1 _)
      have q := req60 ht8 (L := L) 3 0 (p + 2) _ ((hk.1 5 (by decide)).trans ht) (by simp [uI_eq]) (by omega)
      rw [hk.2 301 (by decide) (by decide), uI_self] at q
      obtain ⟨q1, q2, q3, q4, q5⟩ := q
      exact ⟨q1, q2, fun h => ⟨q4.trans (by simp [uI_eq]), q3 h⟩, hk.tr q5⟩
    · rw [if_neg h2, if_neg h2, if_neg h2]
      exact ⟨rfl, uI_self _ _ _ _, fun h => (Bool.false_ne_true h).elim, (rqK.told I 0 _).tr (rqK.plc _ _)⟩
  · rw [if_neg h1, if_neg h1, if_neg h1]
    exact ⟨rfl, by rw [uI_off _ _ _ (by decide)]; exact hp, fun h => (Bool.false_ne_true h).elim, rqK.told I 0 _⟩
/-! the place: a sign that was right lies inside the text -/
theorem hr_lt {t p : Nat} {x : Nat → Int32} (h : hrN t x p ≠ (-1)) : p < t := by
  unfold hrN at h
  rcases Nat.lt_or_ge p t with e | e
  · exact e
  · rw [if_neg (by omega)] at h; exact absurd rfl h
theorem hr_hex {t p : Nat} {x : Nat → Int32} (h : ¬ r11_hex (hrN t x p) < 0) : p < t := by
  refine hr_lt (x := x) (fun e => ?_)
  rw [e] at h
  exact h (by decide)
theorem hr_in {t p : Nat} {x : Nat → Int32} {b : Int32} (hb : b = 3 ∨ b = 4) (h : (r11_in (hrN t x p - 48) 0 b) = true) : p < t := by
  refine hr_lt (x := x) (fun e => ?_)
  rw [e] at h
  rcases hb with rfl | rfl <;> exact absurd h (by decide)
theorem hr_eq {t p : Nat} {x : Nat → Int32} {c : Int32} (hc : c ≠ (-1)) (h : hrN t x p = c) : p < t := hr_lt (by rw [h]; exact hc)
theorem q217_pl {t : Nat} {x : Nat → Int32} : ∀ (n j p : Nat) (d : Int32), p ≤ t → p ≤ (q217 (hrN t x) n j p d).2.1 ∧ (q217 (hrN t x) n j p d).2.1 ≤ t := by
  intro n
  have fin : ∀ (j p : Nat) (d : Int32), p ≤ t → p ≤ (qEnd (hrN t x) j p d).2.1 ∧ (qEnd (hrN t x) j p d).2.1 ≤ t := by
    intro j p d hp
    unfold qEnd
    split
    · exact ⟨Nat.le_refl _, hp⟩
    · split
      · rename_i h
        exact ⟨Nat.le_succ _, hr_eq (by decide) h⟩
      · exact ⟨Nat.le_refl _, hp⟩
  induction n with
  | zero => intro j p d hp; exact fin j p d hp
  | succ n ih =>
    intro j p d hp
    simp only [q217]
    split
    · exact fin j p d hp
    · rename_i h
      have h1 := hr_hex h
      have h2 := ih (j + 1) (p + 1) ((d <<< (4 &&& 31)) ||| (r11_hex (hrN t x p))) (by omega)
      omega
theorem q60_pl {t : Nat} {x : Nat → Int32} : ∀ (n k p : Nat) (z : Int32), p ≤ t → p ≤ (q60 (hrN t x) n k p z).2.1 ∧ (q60 (hrN t x) n k p z).2.1 ≤ t := by
  intro n
  induction n with
  | zero =>
    intro k p z hp
    simp only [q60]
    split
    · rename_i h1
      have g1 := hr_eq (by decide) h1
      split
      · rename_i h2
        have g2 := hr_eq (by decide) h2
        split
        · rename_i h3
          have g3 := hr_in (Or.inr rfl) h3
          split
          · rename_i h4
            have g4 := hr_eq (by decide) h4
            simp only []
            omega
          · simp only []
            omega
        · simp only []
          omega
      · have := q217_pl (t := t) (x := x) 8 0 (p + 1) 0 (by omega)
        simp only []
        omega
    · simp only []
      omega
  | succ n ih =>
    intro k p z hp
    simp only [q60]
    split
    · simp only []
      omega
    · rename_i h
      have h1 := hr_hex (t := t) (p := p) (x := x) (fun e => h (Or.inl e))
      have h2 := ih (k + 1) (p + 1) (((16 : Int32) * z) + (r11_hex (hrN t x p))) (by omega)
      omega
theorem qRq_pl {t p : Nat} {x : Nat → Int32} (hp : p ≤ t) : p ≤ (qRq (hrN t x) p).2.1 ∧ (qRq (hrN t x) p).2.1 ≤ t ∧ ((qRq (hrN t x) p).1 = true → p < (qRq (hrN t x) p).2.1) ∧ ((qRq (hrN t x) p).1 = true → ∃ i, i < 4 ∧ (qRq (hrN t x) p).2.2.1 = nI i) := by
  unfold qRq
  split
  · rename_i h1
    have g1 := hr_in (Or.inl rfl) h1
    split
    · rename_i h2
      have g2 := hr_eq (by decide) h2
      have := q60_pl (t := t) (x := x) 3 0 (p + 2) 0 (by omega)
      refine ⟨?_, ?_, fun _ => ?_, fun _ => isNode11 h1⟩ <;> simp only [] <;> omega
    · exact ⟨Nat.le_succ _, g1, fun h => (Bool.false_ne_true h).elim, fun h => (Bool.false_ne_true h).elim⟩
  · exact ⟨Nat.le_refl _, hp, fun h => (Bool.false_ne_true h).elim, fun h => (Bool.false_ne_true h).elim⟩
