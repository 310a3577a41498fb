theorem isq_ex {t p n : Nat} {I : Nat → Nat → Int32} {L : Nat → Nat → Int64} (ht8 : t ≤ 120) (ht : I 296 5 = nI t) (hp : I 296 9 = nI p) (hpt : p ≤ t) (hn : t < n + 1 + p) (h : r11_isRequest I L = true) : ∃ p, p ≤ t ∧ (i11_isRequest I L) 296 9 = nI p ∧ t < n + p := by
  obtain ⟨h1, h2, -, -⟩ := req_h (L := L) ht8 (by omega) ht hp
  rw [h1] at h
  have h3 := qRq_pl (x := I 301) hpt
  exact ⟨_, h3.2.1, h2, by have := h3.2.2.1 h; omega⟩
theorem isq_t {t p : Nat} {I : Nat → Nat → Int32} {L : Nat → Nat → Int64} (ht8 : t ≤ 120) (ht : I 296 5 = nI t) (hp : I 296 9 = nI p) (hpt : p ≤ t) : (i11_isRequest I L) 296 5 = nI t := by
  obtain ⟨-, -, -, h4⟩ := req_h (L := L) ht8 (by omega) ht hp
  exact (h4.1 5 (by decide)).trans ht

def r11_faultOf_5 : Nat → (Nat → Nat → Int32) → (Nat → Nat → Int64) → Int32
  | 0, I, L => 0
  | n + 1, I, L => (if I 296 5 ≤ I 296 9 then (-5) else (if (r11_isRequest I L) = true then r11_faultOf_5  n (i11_isRequest I L) L else (i11_isRequest I L) 296 9))
def i11_faultOf_5 : Nat → (Nat → Nat → Int32) → (Nat → Nat → Int64) → (Nat → Nat → Int32)
  | 0, I, L => I
  | n + 1, I, L => (if I 296 5 ≤ I 296 9 then I else (if (r11_isRequest I L) = true then i11_faultOf_5  n (i11_isRequest I L) L else i11_isRequest I L))
set_option maxRecDepth 4000 in
theorem t11_faultOf_5 (g : GlT)  (t : Nat) (ht8 : t ≤ 120) : ∀ (n  : Nat) (I : Nat → Nat → Int32) (L : Nat → Nat → Int64), (ht : I 296 5 = nI t) → (hx : ∃ p, p ≤ t ∧ I 296 9 = nI p ∧ t < n + p) → ∀ (Q : Option Value → MemT → Prop), Q (some (.int (r11_faultOf_5 n I L))) (i11_faultOf_5 n I L, L, R0, 305) → V g (k11_faultOf, 4, 0, 0) 0 0 5 [(0, .ref (xA g 296))] [] (I, L, R0, 305) Q := by
  intro n
  induction n with
  | zero =>
    intro  I L ht hx Q hq
    obtain ⟨p, hpt, hp, hn⟩ := hx; exact absurd hn (by omega)
  | succ n ih =>
    intro  I L ht hx Q hq
    obtain ⟨p, hpt, hp, hn⟩ := hx
    refine V_aload_n (pc1 := 6) 0 d11_faultOf_5 rfl rfl ?_
    refine V_geti (pc1 := 9) ly296 (lt305 rfl) f11_214 (fun _ => rfl) rfl d11_faultOf_6 rfl ?_
    refine V_aload_n (pc1 := 10) 0 d11_faultOf_9 rfl rfl ?_
    refine V_geti (pc1 := 13) ly296 (lt305 rfl) f11_211 (fun _ => rfl) rfl d11_faultOf_10 rfl ?_
    refine V_icmp_ge (tgt := 32) (pc1 := 16) d11_faultOf_13 (by decide) rfl (fun h1 => ?_) (fun h1 => ?_)
    · skip
      refine V_bipush (pc1 := 34) d11_faultOf_32 vb_m5 rfl ?_
      refine V_iret rfl d11_faultOf_34 (Nat.zero_le _) (Nat.zero_le _) ?_
      have hq2 := hq
      simp only [r11_faultOf_5, i11_faultOf_5, if_pos h1] at hq2
      exact hq2
    · skip
      refine V_aload_n (pc1 := 17) 0 d11_faultOf_16 rfl rfl ?_
      refine V_aload_n (pc1 := 18) 0 d11_faultOf_17 rfl rfl ?_
      refine V_getr (pc1 := 21) ly296 (lt305 rfl) f11_32 (fun _ => rfl) rf296_10 d11_faultOf_18 rfl ?_
      refine V_vi (pc1 := 24) (w11_isRequest g   t ht8 p (by omega) I L ht hp) ly296 (lt305 rfl) s11_isRequest l11_223 rfl rfl ⟨Nat.le_of_ble_eq_true rfl, Nat.le_of_ble_eq_true rfl, Nat.le_refl _, Nat.le_refl _⟩ (Nat.le_of_ble_eq_true rfl) rfl d11_faultOf_21 rfl ?_
      refine V_bne (tgt := 5) (pc1 := 27) d11_faultOf_24 (by decide) rfl (fun h2 => ?_) (fun h2 => ?_)
      · skip
        refine V_lv (lv1 := [(0, .ref (xA g 296))]) (lvsub_p [0] rfl) ?_
        have hq2 := hq
        simp only [r11_faultOf_5, i11_faultOf_5, if_neg h1, if_pos h2] at hq2
        exact ih (i11_isRequest I L) L (isq_t ht8 ht hp hpt) (isq_ex ht8 ht hp hpt hn h2) Q hq2
      · skip
        refine V_aload_n (pc1 := 28) 0 d11_faultOf_27 rfl rfl ?_
        refine V_geti (pc1 := 31) ly296 (lt305 rfl) f11_214 (fun _ => rfl) rfl d11_faultOf_28 rfl ?_
        refine V_iret rfl d11_faultOf_31 (Nat.zero_le _) (Nat.zero_le _) ?_
        have hq2 := hq
        simp only [r11_faultOf_5, i11_faultOf_5, if_neg h1, if_neg h2] at hq2
        exact hq2
def r11_faultOf (I : Nat → Nat → Int32) (L : Nat → Nat → Int64) : Int32 := r11_faultOf_5  121 (uI I 296 9 0) L
def i11_faultOf (I : Nat → Nat → Int32) (L : Nat → Nat → Int64) : Nat → Nat → Int32 := i11_faultOf_5  121 (uI I 296 9 0) L
set_option maxRecDepth 4000 in
theorem v11_faultOf (g : GlT)  (t : Nat) (ht8 : t ≤ 120) (I : Nat → Nat → Int32) (L : Nat → Nat → Int64) (ht : I 296 5 = nI t) (Q : Option Value → MemT → Prop) (hq : Q (some (.int (r11_faultOf I L))) (i11_faultOf I L, L, R0, 305)) : V g (k11_faultOf, 4, 0, 0) 0 0 0 [(0, .ref (xA g 296))] [] (I, L, R0, 305) Q := by
  refine V_aload_n (pc1 := 1) 0 d11_faultOf_0 rfl rfl ?_
  refine V_iconst (pc1 := 2) d11_faultOf_1 vc_0 rfl ?_
  refine V_puti (pc1 := 5) ly296 (lt305 rfl) f11_214 rfl rfl d11_faultOf_2 rfl ?_
  refine V_lv (lv1 := [(0, .ref (xA g 296))]) (lvsub_p [0] rfl) ?_
  have hq2 := hq
  simp only [r11_faultOf, i11_faultOf] at hq2
  exact t11_faultOf_5 g   _ ht8 121 (uI I 296 9 0) L ((uI_ne I 296 0 (show (5 : Nat) ≠ 9 by decide)).trans ht) ⟨0, Nat.zero_le _, uI_self _ _ _ _, by omega⟩ Q hq2
theorem w11_faultOf (g : GlT)  (t : Nat) (ht8 : t ≤ 120) (I : Nat → Nat → Int32) (L : Nat → Nat → Int64) (ht : I 296 5 = nI t) : Call g (k11_faultOf, 4, 0, 0) [.ref (xA g 296)] (I, L, R0, 305) (Qi (r11_faultOf I L) (i11_faultOf I L) L) := Call.of (by decide) (Nat.le_of_ble_eq_true rfl) rfl (v11_faultOf g   t ht8 I L ht _ (And.intro rfl rfl))


def r11_faultPosition (I : Nat → Nat → Int32) (L : Nat → Nat → Int64) : Int32 := r11_faultOf I L
def i11_faultPosition (I : Nat → Nat → Int32) (L : Nat → Nat → Int64) : Nat → Nat → Int32 := i11_faultOf I L
set_option maxRecDepth 4000 in
theorem v11_faultPosition (g : GlT)  (t : Nat) (ht8 : t ≤ 120) (I : Nat → Nat → Int32) (L : Nat → Nat → Int64) (ht : I 296 5 = nI t) (Q : Option Value → MemT → Prop) (hq : Q (some (.int (r11_faultPosition I L))) (i11_faultPosition I L, L, R0, 305)) : V g (k11_faultPosition, 5, 0, 0) 0 0 0 [(0, .ref (xA g 296))] [] (I, L, R0, 305) Q := by
  refine V_aload_n (pc1 := 1) 0 d11_faultPosition_0 rfl rfl ?_
  refine V_vi (pc1 := 4) (w11_faultOf g   t ht8 I L ht) ly296 (lt305 rfl) s11_faultOf l11_227 rfl rfl ⟨Nat.le_of_ble_eq_true rfl, Nat.le_of_ble_eq_true rfl, Nat.le_refl _, Nat.le_refl _⟩ (Nat.le_of_ble_eq_true rfl) rfl d11_faultPosition_1 rfl ?_
  refine V_iret rfl d11_faultPosition_4 (Nat.zero_le _) (Nat.zero_le _) ?_
  have hq2 := hq
  simp only [r11_faultPosition, i11_faultPosition] at hq2
  exact hq2
theorem w11_faultPosition (g : GlT)  (t : Nat) (ht8 : t ≤ 120) (I : Nat → Nat → Int32) (L : Nat → Nat → Int64) (ht : I 296 5 = nI t) : Call g (k11_faultPosition, 5, 0, 0) [.ref (xA g 296)] (I, L, R0, 305) (Qi (r11_faultPosition I L) (i11_faultPosition I L) L) := Call.of (by decide) (Nat.le_of_ble_eq_true rfl) rfl (v11_faultPosition g   t ht8 I L ht _ (And.intro rfl rfl))


/-! waits keeps all but the row of the nodes, and the sizes -/
theorem wt_off {i : Nat} {idn rm ln dt : Int32} {a : Nat} (ha : a ≠ 297) : ∀ (n j : Nat) (ky : Int32) (I : Nat → Nat → Int32) (L : Nat → Nat → Int64), i11_waits_20 i idn rm ln dt n j ky I L a = I a := by
  intro n
  induction n with
  | zero =>
    intros
    simp only [i11_waits_20, uI_off _ _ _ ha]
  | succ n ih =>
    intros
    simp only [i11_waits_20]
    split
    · simp only [uI_off _ _ _ ha]
    · rw [ih]
      simp only [uI_off _ _ _ ha]
theorem x11_waits {i : Nat} {idn rm ln dt : Int32} {a : Nat} {I : Nat → Nat → Int32} {L : Nat → Nat → Int64} (ha : a ≠ 297) : i11_waits i idn rm ln dt I L a = I a := by
  unfold i11_waits
  exact wt_off ha _ _ _ _ _
theorem wt_sl {i : Nat} {idn rm ln dt : Int32} {b : Nat} (hb : b ≠ 256 * i + 23) (hb2 : ∀ s, 30 ≤ s → s < 50 → b ≠ 256 * i + s) : ∀ (n j : Nat) (ky : Int32) (I : Nat → Nat → Int32) (L : Nat → Nat → Int64), n ≤ 3 → i11_waits_20 i idn rm ln dt n j ky I L 297 b = I 297 b := by
  have q : ∀ (I : Nat → Nat → Int32) (s : Nat) (x : Int32), 30 ≤ s → s < 50 → uI I 297 (256 * i + s) x 297 b = I 297 b := fun I s x h1 h2 => uI_ne _ _ _ (hb2 s h1 h2)
  intro n
  induction n with
  | zero =>
    intro j ky I L hn
    simp only [i11_waits_20]
    rw [uI_ne _ _ _ hb, q _ 34 _ (by omega) (by omega), q _ 33 _ (by omega) (by omega), q _ 32 _ (by omega) (by omega), q _ 31 _ (by omega) (by omega), q _ 30 _ (by omega) (by omega)]
  | succ n ih =>
    intro j ky I L hn
    have q2 : ∀ (I : Nat → Nat → Int32) (s : Nat) (x : Int32), 30 ≤ 5 * n + s → 5 * n + s < 50 → uI I 297 (256 * i + 5 * n + s) x 297 b = I 297 b := fun I s x h1 h2 => by rw [Nat.add_assoc]; exact q I (5 * n + s) x h1 h2
    simp only [i11_waits_20]
    split
    · rw [uI_ne _ _ _ hb, q2 _ 39 _ (by omega) (by omega), q2 _ 38 _ (by omega) (by omega), q2 _ 37 _ (by omega) (by omega), q2 _ 36 _ (by omega) (by omega), q2 _ 35 _ (by omega) (by omega)]
    · rw [ih _ _ _ _ (by omega), q2 _ 39 _ (by omega) (by omega), q2 _ 38 _ (by omega) (by omega), q2 _ 37 _ (by omega) (by omega), q2 _ 36 _ (by omega) (by omega), q2 _ 35 _ (by omega) (by omega)]
theorem wt_23 {i : Nat} {idn rm ln dt : Int32} : ∀ (n j : Nat) (ky : Int32) (I : Nat → Nat → Int32) (L : Nat → Nat → Int64), i11_waits_20 i idn rm ln dt n j ky I L 297 (256 * i + 23) = I 297 (256 * i + 23) + 1 := by
  intro n
  induction n with
  | zero =>
    intro j ky I L
    simp only [i11_waits_20]
    rw [uI_self]
  | succ n ih =>
    intro j ky I L
    simp only [i11_waits_20]
    split
    · rw [uI_self]
    · rw [ih, uI_ne _ _ _ (by omega), uI_ne _ _ _ (by omega), uI_ne _ _ _ (by omega), uI_ne _ _ _ (by omega), uI_ne _ _ _ (by omega)]
theorem rV_waits {i w : Nat} {idn rm ln dt : Int32} {I : Nat → Nat → Int32} {L : Nat → Nat → Int64} (hw : I 297 (256 * i + 23) = nI w) (hw3 : w ≤ 3) (hi : i < 4) (h : rV I) : rV (i11_waits i idn rm ln dt I L) := by
  intro j hj
  obtain ⟨⟨w2, h1, h2⟩, ⟨r, h3, h4⟩, q, h5, h6⟩ := h j hj
  have e : (I 297 (256 * i + 23)).toNatClampNeg = w := by rw [hw]; exact nI_clamp (by omega)
  unfold i11_waits
  rw [e]
  refine ⟨?_, ⟨r, h3, ?_⟩, q, h5, ?_⟩
  · by_cases hij : j = i
    · subst hij
      refine ⟨w + 1, by omega, ?_⟩
      rw [wt_23, hw]
      exact nI_1 w
    · refine ⟨w2, h1, ?_⟩
      rw [wt_sl (by omega) (fun s _ _ => by omega) _ _ _ _ _ hw3]
      exact h2
  · rw [wt_sl (by omega) (fun s _ _ => by omega) _ _ _ _ _ hw3]
    exact h4
  · rw [wt_sl (by omega) (fun s _ _ => by omega) _ _ _ _ _ hw3]
    exact h6
theorem rV_of {I J : Nat → Nat → Int32} (e : J 297 = I 297) (h : rV I) : rV J := by
  intro i hi
  have := h i hi
  unfold rN at this ⊢
  rw [e]
  exact this
theorem isq_r {t p : Nat} {I : Nat → Nat → Int32} {L : Nat → Nat → Int64} (ht8 : t ≤ 120) (ht : I 296 5 = nI t) (hp : I 296 9 = nI p) (hpt : p ≤ t) : (i11_isRequest I L) 297 = I 297 := by
  obtain ⟨-, -, -, h4⟩ := req_h (L := L) ht8 (by omega) ht hp
  exact h4.2 297 (by decide) (by decide)
theorem isq_0 {t p : Nat} {I : Nat → Nat → Int32} {L : Nat → Nat → Int64} (ht8 : t ≤ 120) (ht : I 296 5 = nI t) (hp : I 296 9 = nI p) (hpt : p ≤ t) (h : r11_isRequest I L = true) : ∃ i, i < 4 ∧ (i11_isRequest I L) 304 0 = nI i := by
  obtain ⟨h1, -, h3, -⟩ := req_h (L := L) ht8 (by omega) ht hp
  rw [h1] at h
  obtain ⟨i, hi, e⟩ := (qRq_pl (x := I 301) hpt).2.2.2 h
  exact ⟨i, hi, (h3 h).1.trans e⟩
/-- no fault from here on -/
def qF (h : Nat → Int32) (t : Nat) : Nat → Nat → Int32
  | 0, _ => 0
  | n + 1, p => if t ≤ p then (-5) else if (qRq h p).1 = true then qF h t n (qRq h p).2.1 else nI (qRq h p).2.1
theorem flt_qF {t : Nat} (ht8 : t ≤ 120) {L : Nat → Nat → Int64} : ∀ (n p : Nat) (I : Nat → Nat → Int32), I 296 5 = nI t → I 296 9 = nI p → p ≤ t → r11_faultOf_5 n I L = qF (hrN t (I 301)) t n p := by
  intro n
  induction n with
  | zero => intros; rfl
  | succ n ih =>
    intro p I ht hp hpt
    simp only [r11_faultOf_5, qF]
    obtain ⟨h1, h2, -, h4⟩ := req_h (L := L) ht8 (by omega) ht hp
    rw [ht, hp, h1]
    by_cases hc : t ≤ p
    · rw [if_pos (nI_le hc (by omega)), if_pos hc]
    · rw [if_neg (nI_ge (by omega) (by omega)), if_neg hc]
      by_cases h5 : (qRq (hrN t (I 301)) p).1 = true
      · rw [if_pos h5, if_pos h5, ih _ _ ((h4.1 5 (by decide)).trans ht) h2 (qRq_pl hpt).2.1, h4.2 301 (by decide) (by decide)]
      · rw [if_neg h5, if_neg h5, h2]
def nF (t n p : Nat) (I : Nat → Nat → Int32) : Prop := qF (hrN t (I 301)) t n p < 0
theorem nF_req {t n p : Nat} {I : Nat → Nat → Int32} {L : Nat → Nat → Int64} (ht8 : t ≤ 120) (ht : I 296 5 = nI t) (hp : I 296 9 = nI p) (hpt : p ≤ t) (h : nF t (n + 1) p I) (hc : ¬ I 296 5 ≤ I 296 9) : r11_isRequest I L = true ∧ nF t n (qRq (hrN t (I 301)) p).2.1 I := by
  obtain ⟨h1, h2, -, h4⟩ := req_h (L := L) ht8 (by omega) ht hp
  have hc2 : ¬ t ≤ p := fun e => hc (by rw [ht, hp]; exact nI_le e (by omega))
  have h6 := qRq_pl (x := I 301) hpt
  unfold nF at h ⊢
  simp only [qF] at h
  rw [if_neg hc2] at h
  by_cases h5 : (qRq (hrN t (I 301)) p).1 = true
  · rw [if_pos h5] at h
    exact ⟨h1.trans h5, h⟩
  · rw [if_neg h5] at h
    exact absurd h (nI_pos (by omega))
/-- the state of the loading loop -/
def ldI (t n : Nat) (I : Nat → Nat → Int32) : Prop := rV I ∧ ∃ p, p ≤ t ∧ I 296 9 = nI p ∧ t < n + p ∧ nF t n p I
theorem ldI_step {t n : Nat} {I J : Nat → Nat → Int32} {L : Nat → Nat → Int64} (ht8 : t ≤ 120) (ht : I 296 5 = nI t) (h : ldI t (n + 1) I) (hc : ¬ I 296 5 ≤ I 296 9) (hJ : rV J) (e : ∀ a, a ≠ 297 → J a = (i11_isRequest I L) a) : ldI t n J ∧ J 296 5 = nI t := by
  obtain ⟨hv, p, hpt, hp, hn, hf⟩ := h
  obtain ⟨h1, h2, -, h4⟩ := req_h (L := L) ht8 (by omega) ht hp
  have h5 := nF_req (L := L) ht8 ht hp hpt hf hc
  have h6 := qRq_pl (x := I 301) hpt
  have h7 := h6.2.2.1 (h1.symm.trans h5.1)
  refine ⟨⟨hJ, (qRq (hrN t (I 301)) p).2.1, h6.2.1, ?_, by omega, ?_⟩, ?_⟩
  · rw [e 296 (by decide)]; exact h2
  · unfold nF
    rw [e 301 (by decide), h4.2 301 (by decide) (by decide)]
    exact h5.2
  · rw [e 296 (by decide)]; exact (h4.1 5 (by decide)).trans ht

theorem fo_K {t : Nat} (ht8 : t ≤ 120) {L : Nat → Nat → Int64} : ∀ (n p : Nat) (I : Nat → Nat → Int32), I 296 5 = nI t → I 296 9 = nI p → p ≤ t → rqK I (i11_faultOf_5 n I L) := by
  intro n
  induction n with
  | zero => intro p I _ _ _; exact rqK.rf I
  | succ n ih =>
    intro p I ht hp hpt
    obtain ⟨h1, h2, -, h4⟩ := req_h (L := L) ht8 (by omega) ht hp
    simp only [i11_faultOf_5]
    split
    · exact rqK.rf I
    · split
      · exact h4.tr (ih _ _ ((h4.1 5 (by decide)).trans ht) h2 (qRq_pl hpt).2.1)
      · exact h4
theorem fo_k {t : Nat} {I : Nat → Nat → Int32} {L : Nat → Nat → Int64} (ht8 : t ≤ 120) (ht : I 296 5 = nI t) : rqK I (i11_faultOf I L) := by
  unfold i11_faultOf
  exact (rqK.plc I 0).tr (fo_K ht8 121 0 _ ((uI_ne _ _ _ (by decide)).trans ht) (uI_self _ _ _ _) (Nat.zero_le _))
theorem fo_r {t : Nat} {I : Nat → Nat → Int32} {L : Nat → Nat → Int64} (ht8 : t ≤ 120) (ht : I 296 5 = nI t) : r11_faultOf I L = qF (hrN t (I 301)) t 121 0 := by
  unfold r11_faultOf
  have e := flt_qF ht8 (L := L) 121 0 (uI I 296 9 0) ((uI_ne _ _ _ (by decide)).trans ht) (uI_self _ _ _ _) (Nat.zero_le _)
  rw [uI_off _ _ _ (show (301 : Nat) ≠ 296 by decide)] at e
  exact e
theorem ldI_0 {t : Nat} {I : Nat → Nat → Int32} {L : Nat → Nat → Int64} (ht8 : t ≤ 120) (ht : I 296 5 = nI t) (hv : rV I) (h : r11_faultOf I L < 0) : ldI t 121 (uI (i11_faultOf I L) 296 9 0) := by
  have k := (fo_k (L := L) ht8 ht).tr (rqK.plc _ 0)
  refine ⟨rV_of (k.2 297 (by decide) (by decide)) hv, 0, Nat.zero_le _, uI_self _ _ _ _, by omega, ?_⟩
  unfold nF
  rw [k.2 301 (by decide) (by decide), ← fo_r (L := L) ht8 ht]
  exact h

def r11_load_22 : Nat → Int32 → (Nat → Nat → Int32) → (Nat → Nat → Int64) → Int32
  | 0, z, I, L => 0
  | n + 1, z, I, L => (if I 296 5 ≤ I 296 9 then z else (if (r11_isRequest I L) = true then (if (r11_isRoom (((i11_isRequest I L) 304 0).toNatClampNeg) (i11_isRequest I L) L) = true then r11_load_22  n (z + 1) (i11_waits (((i11_isRequest I L) 304 0).toNatClampNeg) ((i11_isRequest I L) 304 1) ((i11_isRequest I L) 304 2) ((i11_isRequest I L) 304 3) ((i11_isRequest I L) 304 4) (i11_isRequest I L) L) L else r11_load_22  n z (i11_isRequest I L) L) else r11_load_22  n z (i11_isRequest I L) L))
def i11_load_22 : Nat → Int32 → (Nat → Nat → Int32) → (Nat → Nat → Int64) → (Nat → Nat → Int32)
  | 0, z, I, L => I
  | n + 1, z, I, L => (if I 296 5 ≤ I 296 9 then I else (if (r11_isRequest I L) = true then (if (r11_isRoom (((i11_isRequest I L) 304 0).toNatClampNeg) (i11_isRequest I L) L) = true then i11_load_22  n (z + 1) (i11_waits (((i11_isRequest I L) 304 0).toNatClampNeg) ((i11_isRequest I L) 304 1) ((i11_isRequest I L) 304 2) ((i11_isRequest I L) 304 3) ((i11_isRequest I L) 304 4) (i11_isRequest I L) L) L else i11_load_22  n z (i11_isRequest I L) L) else i11_load_22  n z (i11_isRequest I L) L))
set_option maxRecDepth 4000 in
theorem t11_load_22 (g : GlT)  (t : Nat) (ht8 : t ≤ 120) : ∀ (n  : Nat) (z : Int32) (I : Nat → Nat → Int32) (L : Nat → Nat → Int64), (ht : I 296 5 = nI t) → (hx : ldI t n I) → ∀ (Q : Option Value → MemT → Prop), Q (some (.int (r11_load_22 n z I L))) (i11_load_22 n z I L, L, R0, 305) → V g (k11_load, 5, 0, 0) 0 0 22 [(0, .ref (xA g 296)), (2, .int z)] [] (I, L, R0, 305) Q := by
  intro n
  induction n with
  | zero =>
    intro z I L ht hx Q hq
    obtain ⟨-, p, hpt, hp, hn, -⟩ := hx; exact absurd hn (by omega)
  | succ n ih =>
    intro z I L ht hx Q hq
    obtain ⟨hv, p, hpt, hp, hn, hf⟩ := id hx
    refine V_aload_n (pc1 := 23) 0 d11_load_22 rfl rfl ?_
    refine V_geti (pc1 := 26) ly296 (lt305 rfl) f11_214 (fun _ => rfl) rfl d11_load_23 rfl ?_
    refine V_aload_n (pc1 := 27) 0 d11_load_26 rfl rfl ?_
    refine V_geti (pc1 := 30) ly296 (lt305 rfl) f11_211 (fun _ => rfl) rfl d11_load_27 rfl ?_
    refine V_icmp_ge (tgt := 99) (pc1 := 33) d11_load_30 (by decide) rfl (fun h1 => ?_) (fun h1 => ?_)
    · skip
      refine V_iload_n (pc1 := 100) 1 d11_load_99 rfl rfl ?_
      refine V_iret rfl d11_load_100 (Nat.zero_le _) (Nat.zero_le _) ?_
      have hq2 := hq
      simp only [r11_load_22, i11_load_22, if_pos h1] at hq2
      exact hq2
    · skip
      refine V_aload_n (pc1 := 34) 0 d11_load_33 rfl rfl ?_
      refine V_aload_n (pc1 := 35) 0 d11_load_34 rfl rfl ?_
      refine V_getr (pc1 := 38) ly296 (lt305 rfl) f11_32 (fun _ => rfl) rf296_10 d11_load_35 rfl ?_
      refine V_vi (pc1 := 41) (w11_isRequest g   t ht8 p (by omega) I L ht hp) ly296 (lt305 rfl) s11_isRequest l11_223 rfl rfl ⟨Nat.le_of_ble_eq_true rfl, Nat.le_of_ble_eq_true rfl, Nat.le_refl _, Nat.le_refl _⟩ (Nat.le_of_ble_eq_true rfl) rfl d11_load_38 rfl ?_
      refine V_istore_n (pc1 := 42) d11_load_41 (Nat.le_of_ble_eq_true rfl) rfl rfl ?_
      refine V_iload_n (pc1 := 43) 0 d11_load_42 rfl rfl ?_
      refine V_beq (tgt := 96) (pc1 := 46) d11_load_43 (by decide) rfl (fun h2 => ?_) (fun h2 => ?_)
      · skip
        refine V_goto (tgt := 22) d11_load_96 (by decide) ?_
        refine V_lv (lv1 := [(0, .ref (xA g 296)), (2, .int z)]) (lvsub_p [1, 2] rfl) ?_
        have hq2 := hq
        simp only [r11_load_22, i11_load_22, if_neg h1, if_neg h2] at hq2
        exact ih z (i11_isRequest I L) L (ldI_step ht8 ht hx h1 (rV_of (isq_r ht8 ht hp hpt) hv) (fun a ha => rfl)).2 (ldI_step ht8 ht hx h1 (rV_of (isq_r ht8 ht hp hpt) hv) (fun a ha => rfl)).1 Q hq2
      · skip
        obtain ⟨ni, hni, hn0⟩ := isq_0 ht8 ht hp hpt h2
        have hn3 : ((i11_isRequest I L) 304 0).toNatClampNeg = ni := by rw [hn0]; exact nI_clamp (by omega)
        obtain ⟨⟨w, hw4, hw⟩, -, -⟩ := rV_of (isq_r ht8 ht hp hpt) hv ni hni
        refine V_aload_n (pc1 := 47) 1 d11_load_46 rfl rfl ?_
        refine V_aload_n (pc1 := 48) 1 d11_load_47 rfl rfl ?_
        refine V_getr (pc1 := 51) ly296 (lt305 rfl) f11_32 (fun _ => rfl) rf296_10 d11_load_48 rfl ?_
        refine V_iconst (pc1 := 52) d11_load_51 vc_0 rfl ?_
        refine V_iald2 (pc1 := 53) 0 ly304 (lt305 rfl) rfl (Nat.le_of_ble_eq_true rfl) hn0 d11_load_52 rfl ?_
        refine V_vi (pc1 := 56) (w11_isRoom g  ni hni (i11_isRequest I L) L ) ly296 (lt305 rfl) s11_isRoom l11_88 rfl rfl ⟨Nat.le_of_ble_eq_true rfl, Nat.le_of_ble_eq_true rfl, Nat.le_refl _, Nat.le_refl _⟩ (Nat.le_of_ble_eq_true rfl) rfl d11_load_53 rfl ?_
        refine V_beq (tgt := 96) (pc1 := 59) d11_load_56 (by decide) rfl (fun h3 => ?_) (fun h3 => ?_)
        · skip
          refine V_goto (tgt := 22) d11_load_96 (by decide) ?_
          refine V_lv (lv1 := [(0, .ref (xA g 296)), (2, .int z)]) (lvsub_p [1, 2] rfl) ?_
          have hq2 := hq
          simp only [r11_load_22, i11_load_22, if_neg h1, if_pos h2, hn3, if_neg h3] at hq2
          exact ih z (i11_isRequest I L) L (ldI_step ht8 ht hx h1 (rV_of (isq_r ht8 ht hp hpt) hv) (fun a ha => rfl)).2 (ldI_step ht8 ht hx h1 (rV_of (isq_r ht8 ht hp hpt) hv) (fun a ha => rfl)).1 Q hq2
        · skip
          refine V_aload_n (pc1 := 60) 1 d11_load_59 rfl rfl ?_
          refine V_aload_n (pc1 := 61) 1 d11_load_60 rfl rfl ?_
          refine V_getr (pc1 := 64) ly296 (lt305 rfl) f11_32 (fun _ => rfl) rf296_10 d11_load_61 rfl ?_
          refine V_iconst (pc1 := 65) d11_load_64 vc_0 rfl ?_
          refine V_iald2 (pc1 := 66) 0 ly304 (lt305 rfl) rfl (Nat.le_of_ble_eq_true rfl) hn0 d11_load_65 rfl ?_
          refine V_aload_n (pc1 := 67) 1 d11_load_66 rfl rfl ?_
          refine V_getr (pc1 := 70) ly296 (lt305 rfl) f11_32 (fun _ => rfl) rf296_10 d11_load_67 rfl ?_
          refine V_iconst (pc1 := 71) d11_load_70 vc_1 rfl ?_
          refine V_iald2 (pc1 := 72) 1 ly304 (lt305 rfl) rfl (Nat.le_of_ble_eq_true rfl) rfl d11_load_71 rfl ?_
          refine V_aload_n (pc1 := 73) 1 d11_load_72 rfl rfl ?_
          refine V_getr (pc1 := 76) ly296 (lt305 rfl) f11_32 (fun _ => rfl) rf296_10 d11_load_73 rfl ?_
          refine V_iconst (pc1 := 77) d11_load_76 vc_2 rfl ?_
          refine V_iald2 (pc1 := 78) 2 ly304 (lt305 rfl) rfl (Nat.le_of_ble_eq_true rfl) rfl d11_load_77 rfl ?_
          refine V_aload_n (pc1 := 79) 1 d11_load_78 rfl rfl ?_
          refine V_getr (pc1 := 82) ly296 (lt305 rfl) f11_32 (fun _ => rfl) rf296_10 d11_load_79 rfl ?_
          refine V_iconst (pc1 := 83) d11_load_82 vc_3 rfl ?_
          refine V_iald2 (pc1 := 84) 3 ly304 (lt305 rfl) rfl (Nat.le_of_ble_eq_true rfl) rfl d11_load_83 rfl ?_
          refine V_aload_n (pc1 := 85) 1 d11_load_84 rfl rfl ?_
          refine V_getr (pc1 := 88) ly296 (lt305 rfl) f11_32 (fun _ => rfl) rf296_10 d11_load_85 rfl ?_
          refine V_iconst (pc1 := 89) d11_load_88 vc_4 rfl ?_
          refine V_iald2 (pc1 := 90) 4 ly304 (lt305 rfl) rfl (Nat.le_of_ble_eq_true rfl) rfl d11_load_89 rfl ?_
          refine V_vv (pc1 := 93) (w11_waits g  ni ((i11_isRequest I L) 304 1) ((i11_isRequest I L) 304 2) ((i11_isRequest I L) 304 3) ((i11_isRequest I L) 304 4) hni w (room_lt hw hw4 h3) (i11_isRequest I L) L hw) ly296 (lt305 rfl) s11_waits l11_91 rfl rfl ⟨Nat.le_of_ble_eq_true rfl, Nat.le_of_ble_eq_true rfl, Nat.le_refl _, Nat.le_refl _⟩ (Nat.le_of_ble_eq_true rfl) rfl d11_load_90 rfl ?_
          refine V_iinc (pc1 := 96) 2 (v := z + 1) d11_load_93 rfl rfl (Nat.le_of_ble_eq_true rfl) rfl rfl ?_
          refine V_goto (tgt := 22) d11_load_96 (by decide) ?_
          refine V_lv (lv1 := [(0, .ref (xA g 296)), (2, .int (z + 1))]) (lvsub_p [2, 0] rfl) ?_
          have hq2 := hq
          simp only [r11_load_22, i11_load_22, if_neg h1, if_pos h2, hn3, if_pos h3] at hq2
          exact ih (z + 1) (i11_waits ni ((i11_isRequest I L) 304 1) ((i11_isRequest I L) 304 2) ((i11_isRequest I L) 304 3) ((i11_isRequest I L) 304 4) (i11_isRequest I L) L) L (ldI_step ht8 ht hx h1 (rV_waits hw (room_lt hw hw4 h3) hni (rV_of (isq_r ht8 ht hp hpt) hv)) (fun a ha => x11_waits ha)).2 (ldI_step ht8 ht hx h1 (rV_waits hw (room_lt hw hw4 h3) hni (rV_of (isq_r ht8 ht hp hpt) hv)) (fun a ha => x11_waits ha)).1 Q hq2
def r11_load (I : Nat → Nat → Int32) (L : Nat → Nat → Int64) : Int32 := (if r11_faultOf I L < 0 then r11_load_22  121 0 (uI (i11_faultOf I L) 296 9 0) L else ((-1000) : Int32) - (r11_faultOf I L))
def i11_load (I : Nat → Nat → Int32) (L : Nat → Nat → Int64) : Nat → Nat → Int32 := (if r11_faultOf I L < 0 then i11_load_22  121 0 (uI (i11_faultOf I L) 296 9 0) L else i11_faultOf I L)
set_option maxRecDepth 4000 in
theorem v11_load (g : GlT)  (t : Nat) (ht8 : t ≤ 120) (I : Nat → Nat → Int32) (L : Nat → Nat → Int64) (ht : I 296 5 = nI t) (hv : rV I) (Q : Option Value → MemT → Prop) (hq : Q (some (.int (r11_load I L))) (i11_load I L, L, R0, 305)) : V g (k11_load, 5, 0, 0) 0 0 0 [(0, .ref (xA g 296))] [] (I, L, R0, 305) Q := by
  have htF : (i11_faultOf I L) 296 5 = nI t := ((fo_k (L := L) ht8 ht).1 5 (by decide)).trans ht
  refine V_aload_n (pc1 := 1) 0 d11_load_0 rfl rfl ?_
  refine V_vi (pc1 := 4) (w11_faultOf g   t ht8 I L ht) ly296 (lt305 rfl) s11_faultOf l11_227 rfl rfl ⟨Nat.le_of_ble_eq_true rfl, Nat.le_of_ble_eq_true rfl, Nat.le_refl _, Nat.le_refl _⟩ (Nat.le_of_ble_eq_true rfl) rfl d11_load_1 rfl ?_
  refine V_istore_n (pc1 := 5) d11_load_4 (Nat.le_of_ble_eq_true rfl) rfl rfl ?_
  refine V_iload_n (pc1 := 6) 0 d11_load_5 rfl rfl ?_
  refine V_if_lt (tgt := 15) (pc1 := 9) d11_load_6 (by decide) rfl (fun h1 => ?_) (fun h1 => ?_)
  · skip
    refine V_iconst (pc1 := 16) d11_load_15 vc_0 rfl ?_
    refine V_istore_n (pc1 := 17) d11_load_16 (Nat.le_of_ble_eq_true rfl) rfl rfl ?_
    refine V_aload_n (pc1 := 18) 2 d11_load_17 rfl rfl ?_
    refine V_iconst (pc1 := 19) d11_load_18 vc_0 rfl ?_
    refine V_puti (pc1 := 22) ly296 (lt305 rfl) f11_214 rfl rfl d11_load_19 rfl ?_
    refine V_lv (lv1 := [(0, .ref (xA g 296)), (2, .int 0)]) (lvsub_p [2, 0] rfl) ?_
    have hq2 := hq
    simp only [r11_load, i11_load, if_pos h1] at hq2
    exact t11_load_22 g   _ ht8 121 0 (uI (i11_faultOf I L) 296 9 0) L ((uI_ne (i11_faultOf I L) 296 0 (show (5 : Nat) ≠ 9 by decide)).trans htF) (ldI_0 ht8 ht hv h1) Q hq2
  · skip
    refine V_sipush (pc1 := 12) d11_load_9 vs_m1000 rfl ?_
    refine V_iload_n (pc1 := 13) 0 d11_load_12 rfl rfl ?_
    refine V_isub (pc1 := 14) d11_load_13 rfl ?_
    refine V_iret rfl d11_load_14 (Nat.zero_le _) (Nat.zero_le _) ?_
    have hq2 := hq
    simp only [r11_load, i11_load, if_neg h1] at hq2
    exact hq2
theorem w11_load (g : GlT)  (t : Nat) (ht8 : t ≤ 120) (I : Nat → Nat → Int32) (L : Nat → Nat → Int64) (ht : I 296 5 = nI t) (hv : rV I) : Call g (k11_load, 5, 0, 0) [.ref (xA g 296)] (I, L, R0, 305) (Qi (r11_load I L) (i11_load I L) L) := Call.of (by decide) (Nat.le_of_ble_eq_true rfl) rfl (v11_load g   t ht8 I L ht hv _ (And.intro rfl rfl))

