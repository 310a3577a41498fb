def r11_response_120 (i : Nat) (ow : Int32) (bl : Int32) (wv : Int32) : Nat → Nat → Int32 → (Nat → Nat → Int32) → (Nat → Nat → Int64) → Int32
  | 0, j, z, I, L => z
  | n + 1, j, z, I, L => r11_response_120 i ow bl wv n (j + 1) (z + (if I 302 (4 * i) ≤ I 302 (4 * j) then 0 else (r11_worst (I 302 (4 * j + 1))) * (((wv + (I 302 (4 * j + 3))) + (I 302 (4 * j + 2))) / (I 302 (4 * j + 2))))) I L
set_option maxRecDepth 4000 in
theorem t11_response_120 (g : GlT) (i : Nat) (ow : Int32) (bl : Int32) (wv : Int32) (m : Nat) (hm8 : m ≤ 8) (him : i < m) : ∀ (n j : Nat) (z : Int32) (I : Nat → Nat → Int32) (L : Nat → Nat → Int64), (hm : I 296 7 = nI m) → (hpd : ∀ k, k < m → ¬ I 302 (4 * k + 2) = 0) → (hn : j + n = m) → ∀ (Q : Option Value → MemT → Prop), V g (k11_response, 2, 0, 0) 0 0 212 [(0, .ref (xA g 296)), (1, .int (nI i)), (2, .int ow), (3, .int bl), (4, .int wv), (5, .int (r11_response_120 i ow bl wv n j z I L))] [] (I, L, R0, 305) Q → V g (k11_response, 2, 0, 0) 0 0 120 [(0, .ref (xA g 296)), (1, .int (nI i)), (2, .int ow), (3, .int bl), (4, .int wv), (5, .int z), (6, .int (nI j))] [] (I, L, R0, 305) Q := by
  intro n
  induction n with
  | zero =>
    intro j z I L hm hpd hn Q hq
    refine V_iload (pc1 := 122) 6 d11_response_120 rfl rfl ?_
    refine V_aload_n (pc1 := 123) 0 d11_response_122 rfl rfl ?_
    refine V_geti (pc1 := 126) ly296 (lt305 rfl) f11_201 (fun _ => rfl) hm d11_response_123 rfl ?_
    refine V_icmp_ge (tgt := 212) (pc1 := 129) d11_response_126 (by decide) rfl (fun _ => ?_) (fun h1 => absurd (nI_le (by omega) (by omega)) h1)
    refine V_lv (lv1 := [(0, .ref (xA g 296)), (1, .int (nI i)), (2, .int ow), (3, .int bl), (4, .int wv), (5, .int z)]) (lvsub_p [0, 1, 2, 3, 4, 5] rfl) ?_
    have hq2 := hq
    simp only [r11_response_120] at hq2
    exact hq2
  | succ n ih =>
    intro j z I L hm hpd hn Q hq
    refine V_iload (pc1 := 122) 6 d11_response_120 rfl rfl ?_
    refine V_aload_n (pc1 := 123) 0 d11_response_122 rfl rfl ?_
    refine V_geti (pc1 := 126) ly296 (lt305 rfl) f11_201 (fun _ => rfl) hm d11_response_123 rfl ?_
    refine V_icmp_ge (tgt := 212) (pc1 := 129) d11_response_126 (by decide) rfl (fun h1 => absurd h1 (nI_ge (by omega) (by omega))) (fun _ => ?_)
    refine V_aload_n (pc1 := 130) 0 d11_response_129 rfl rfl ?_
    refine V_getr (pc1 := 133) ly296 (lt305 rfl) f11_26 (fun _ => rfl) rf296_6 d11_response_130 rfl ?_
    refine V_iconst (pc1 := 134) d11_response_133 vc_4 rfl ?_
    refine V_iload (pc1 := 136) 6 d11_response_134 rfl rfl ?_
    refine V_mulN (pc1 := 137) (a := 4) (b := j) (c := 4 * j) rfl rfl (by omega) d11_response_136 rfl ?_
    refine V_iconst (pc1 := 138) d11_response_137 vc_2 rfl ?_
    refine V_addN (pc1 := 139) (a := 4 * j) (b := 2) (c := 4 * j + 2) rfl rfl (by omega) d11_response_138 rfl ?_
    refine V_iald2 (pc1 := 140) (4 * j + 2) ly302 (lt305 rfl) rfl (by omega) rfl d11_response_139 rfl ?_
    refine V_istore (pc1 := 142) d11_response_140 (Nat.le_of_ble_eq_true rfl) rfl rfl ?_
    refine V_iload (pc1 := 144) 6 d11_response_142 rfl rfl ?_
    refine V_aload_n (pc1 := 145) 1 d11_response_144 rfl rfl ?_
    refine V_getr (pc1 := 148) ly296 (lt305 rfl) f11_26 (fun _ => rfl) rf296_6 d11_response_145 rfl ?_
    refine V_iconst (pc1 := 149) d11_response_148 vc_4 rfl ?_
    refine V_iload (pc1 := 151) 7 d11_response_149 rfl rfl ?_
    refine V_mulN (pc1 := 152) (a := 4) (b := j) (c := 4 * j) rfl rfl (by omega) d11_response_151 rfl ?_
    refine V_iald2 (pc1 := 153) (4 * j) ly302 (lt305 rfl) rfl (by omega) rfl d11_response_152 rfl ?_
    refine V_aload_n (pc1 := 154) 1 d11_response_153 rfl rfl ?_
    refine V_getr (pc1 := 157) ly296 (lt305 rfl) f11_26 (fun _ => rfl) rf296_6 d11_response_154 rfl ?_
    refine V_iconst (pc1 := 158) d11_response_157 vc_4 rfl ?_
    refine V_iload_n (pc1 := 159) 2 d11_response_158 rfl rfl ?_
    refine V_mulN (pc1 := 160) (a := 4) (b := i) (c := 4 * i) rfl rfl (by omega) d11_response_159 rfl ?_
    refine V_iald2 (pc1 := 161) (4 * i) ly302 (lt305 rfl) rfl (by omega) rfl d11_response_160 rfl ?_
    have key3 : ∀ (y203_0 : Int32), y203_0 = (if I 302 (4 * i) ≤ I 302 (4 * j) then 0 else (r11_worst (I 302 (4 * j + 1))) * (((wv + (I 302 (4 * j + 3))) + (I 302 (4 * j + 2))) / (I 302 (4 * j + 2)))) → ∀ (lv : List (Nat × Value)), lvsub [(7, .int (I 302 (4 * j + 2))), (0, .ref (xA g 296)), (1, .int (nI i)), (2, .int ow), (3, .int bl), (4, .int wv), (5, .int z), (6, .int (nI j))] lv → V g (k11_response, 2, 0, 0) 0 0 203 lv [.int y203_0, .int z] (I, L, R0, 305) Q := by
      intro y203_0 ey203_0
      subst ey203_0
      intro lv hlv
      refine V_lv hlv ?_
      refine V_iadd (pc1 := 204) d11_response_203 rfl ?_
      refine V_istore (pc1 := 206) d11_response_204 (Nat.le_of_ble_eq_true rfl) rfl rfl ?_
      refine V_iinc (pc1 := 209) 7 (v := nI (j + 1)) d11_response_206 rfl (nI_1 _) (Nat.le_of_ble_eq_true rfl) rfl rfl ?_
      refine V_goto (tgt := 120) d11_response_209 (by decide) ?_
      refine V_lv (lv1 := [(0, .ref (xA g 296)), (1, .int (nI i)), (2, .int ow), (3, .int bl), (4, .int wv), (5, .int (z + (if I 302 (4 * i) ≤ I 302 (4 * j) then 0 else (r11_worst (I 302 (4 * j + 1))) * (((wv + (I 302 (4 * j + 3))) + (I 302 (4 * j + 2))) / (I 302 (4 * j + 2)))))), (6, .int (nI (j + 1)))]) (lvsub_p [3, 4, 5, 6, 7, 1, 0] rfl) ?_
      have hq2 := hq
      simp only [r11_response_120] at hq2
      exact ih (j + 1) (z + (if I 302 (4 * i) ≤ I 302 (4 * j) then 0 else (r11_worst (I 302 (4 * j + 1))) * (((wv + (I 302 (4 * j + 3))) + (I 302 (4 * j + 2))) / (I 302 (4 * j + 2))))) I L hm hpd (by omega) Q hq2
    refine V_icmp_ge (tgt := 202) (pc1 := 164) d11_response_161 (by decide) rfl (fun h2 => ?_) (fun h2 => ?_)
    · skip
      refine V_iconst (pc1 := 203) d11_response_202 vc_0 rfl ?_
      exact key3 _ (by first | rfl | (simp only [if_pos h2]; done) | (simp only [if_pos h2]; rfl)) _ (lvsub_p [0, 1, 2, 3, 4, 5, 6, 7] rfl)
    · skip
      refine V_aload_n (pc1 := 165) 1 d11_response_164 rfl rfl ?_
      refine V_getr (pc1 := 168) ly296 (lt305 rfl) f11_26 (fun _ => rfl) rf296_6 d11_response_165 rfl ?_
      refine V_iconst (pc1 := 169) d11_response_168 vc_4 rfl ?_
      refine V_iload (pc1 := 171) 7 d11_response_169 rfl rfl ?_
      refine V_mulN (pc1 := 172) (a := 4) (b := j) (c := 4 * j) rfl rfl (by omega) d11_response_171 rfl ?_
      refine V_iconst (pc1 := 173) d11_response_172 vc_1 rfl ?_
      refine V_addN (pc1 := 174) (a := 4 * j) (b := 1) (c := 4 * j + 1) rfl rfl (by omega) d11_response_173 rfl ?_
      refine V_iald2 (pc1 := 175) (4 * j + 1) ly302 (lt305 rfl) rfl (by omega) rfl d11_response_174 rfl ?_
      refine V_si (pc1 := 178) (w11_worst g  (I 302 (4 * j + 1))  I L ) s11_worst l11_62 rfl rfl ⟨Nat.le_of_ble_eq_true rfl, Nat.le_of_ble_eq_true rfl, Nat.le_refl _, Nat.le_refl _⟩ (Nat.le_of_ble_eq_true rfl) rfl d11_response_175 rfl ?_
      refine V_iload (pc1 := 180) 5 d11_response_178 rfl rfl ?_
      refine V_aload_n (pc1 := 181) 1 d11_response_180 rfl rfl ?_
      refine V_getr (pc1 := 184) ly296 (lt305 rfl) f11_26 (fun _ => rfl) rf296_6 d11_response_181 rfl ?_
      refine V_iconst (pc1 := 185) d11_response_184 vc_4 rfl ?_
      refine V_iload (pc1 := 187) 7 d11_response_185 rfl rfl ?_
      refine V_mulN (pc1 := 188) (a := 4) (b := j) (c := 4 * j) rfl rfl (by omega) d11_response_187 rfl ?_
      refine V_iconst (pc1 := 189) d11_response_188 vc_3 rfl ?_
      refine V_addN (pc1 := 190) (a := 4 * j) (b := 3) (c := 4 * j + 3) rfl rfl (by omega) d11_response_189 rfl ?_
      refine V_iald2 (pc1 := 191) (4 * j + 3) ly302 (lt305 rfl) rfl (by omega) rfl d11_response_190 rfl ?_
      refine V_iadd (pc1 := 192) d11_response_191 rfl ?_
      refine V_iload (pc1 := 194) 0 d11_response_192 rfl rfl ?_
      refine V_iadd (pc1 := 195) d11_response_194 rfl ?_
      refine V_iload (pc1 := 197) 0 d11_response_195 rfl rfl ?_
      refine V_idiv (pc1 := 198) d11_response_197 (hpd j (by omega)) rfl ?_
      refine V_imul (pc1 := 199) d11_response_198 rfl ?_
      refine V_goto (tgt := 203) d11_response_199 (by decide) ?_
      exact key3 _ (by first | rfl | (simp only [if_neg h2]; done) | (simp only [if_neg h2]; rfl)) _ (lvsub_p [0, 1, 2, 3, 4, 5, 6, 7] rfl)
/-- the messages as they may be -/
def mG (m : Nat) (I : Nat → Nat → Int32) : Prop := ∀ k, k < m → ∃ ln pd jt, ln ≤ 4 ∧ 1 ≤ pd ∧ pd ≤ 5000 ∧ jt ≤ 500 ∧ I 302 (4 * k + 1) = nI ln ∧ I 302 (4 * k + 2) = nI pd ∧ I 302 (4 * k + 3) = nI jt
def wN (ln : Nat) : Nat := 47 + 8 * ln + (33 + 8 * ln) / 4
def gT (I : Nat → Nat → Int32) (wn k : Nat) : Nat := wN ((I 302 (4 * k + 1)).toNatClampNeg) * ((wn + (I 302 (4 * k + 3)).toNatClampNeg + (I 302 (4 * k + 2)).toNatClampNeg) / (I 302 (4 * k + 2)).toNatClampNeg)
def gS (I : Nat → Nat → Int32) (i wn : Nat) : Nat → Nat
  | 0 => 0
  | n + 1 => gS I i wn n + (if I 302 (4 * n) < I 302 (4 * i) then gT I wn n else 0)
theorem wN_le {ln : Nat} (h : ln ≤ 4) : wN ln ≤ 95 := by unfold wN; omega
theorem worst_N {ln : Nat} (h : ln ≤ 4) : r11_worst (nI ln) = nI (wN ln) := by
  unfold r11_worst wN
  rw [show (8 : Int32) * nI ln = nI (8 * ln) from pk_mul 8 ln, show (47 : Int32) + nI (8 * ln) = nI (47 + 8 * ln) from nI_add 47 _, show (33 : Int32) + nI (8 * ln) = nI (33 + 8 * ln) from nI_add 33 _, show nI (33 + 8 * ln) / 4 = nI ((33 + 8 * ln) / 4) from pk_div (d := 4) (by omega) (by omega) (by omega), nI_add]
def gK : Nat := 997500
theorem gK_eq : gK = 997500 := rfl
theorem gT_le {I : Nat → Nat → Int32} {m wn k : Nat} (h : mG m I) (hk : k < m) (hw : wn ≤ 5000) : gT I wn k ≤ gK := by
  obtain ⟨ln, pd, jt, h1, h2, h3, h4, e1, e2, e3⟩ := h k hk
  unfold gT
  rw [e1, e2, e3, nI_clamp (by omega), nI_clamp (by omega), nI_clamp (by omega)]
  rw [gK_eq]
  exact Nat.le_trans (Nat.mul_le_mul (wN_le h1) (Nat.le_trans (Nat.div_le_self _ _) (show wn + jt + pd ≤ 10500 by omega))) (Nat.le_of_ble_eq_true rfl)
theorem gS_leK {I : Nat → Nat → Int32} {m i wn K : Nat} (h : ∀ k, k < m → gT I wn k ≤ K) : ∀ n, n ≤ m → gS I i wn n ≤ n * K := by
  intro n
  induction n with
  | zero => intro _; simp [gS]
  | succ n ih =>
    intro hn
    have h1 := ih (by omega)
    have h2 := h n (by omega)
    simp only [gS]
    rw [Nat.succ_mul n K]
    split
    · exact Nat.add_le_add h1 h2
    · exact Nat.le_trans h1 (Nat.le_add_right _ _)
theorem gS_le {I : Nat → Nat → Int32} {m i wn : Nat} (h : mG m I) (hw : wn ≤ 5000) (n : Nat) (hn : n ≤ m) : gS I i wn n ≤ n * gK := gS_leK (fun k hk => gT_le h hk hw) n hn
theorem gT_mono {I : Nat → Nat → Int32} {k a b : Nat} (h : a ≤ b) : gT I a k ≤ gT I b k := by
  unfold gT
  exact Nat.mul_le_mul_left _ (Nat.div_le_div_right (by omega))
theorem gS_mono {I : Nat → Nat → Int32} {i a b : Nat} (h : a ≤ b) : ∀ n, gS I i a n ≤ gS I i b n := by
  intro n
  induction n with
  | zero => simp [gS]
  | succ n ih =>
    have h1 := gT_mono (I := I) (k := n) h
    simp only [gS]
    split <;> omega
theorem rs_term {I : Nat → Nat → Int32} {m wn k : Nat} (h : mG m I) (hk : k < m) (hw : wn ≤ 5000) : (r11_worst (I 302 (4 * k + 1))) * (((nI wn + (I 302 (4 * k + 3))) + (I 302 (4 * k + 2))) / (I 302 (4 * k + 2))) = nI (gT I wn k) := by
  obtain ⟨ln, pd, jt, h1, h2, h3, h4, e1, e2, e3⟩ := h k hk
  unfold gT
  rw [e1, e2, e3, nI_clamp (by omega), nI_clamp (by omega), nI_clamp (by omega), worst_N h1, nI_add, nI_add, pk_div (by omega) (by omega) (by omega), pk_mul]
theorem rs_sum {I : Nat → Nat → Int32} {L : Nat → Nat → Int64} {ow bl : Int32} {m i wn b : Nat} (h : mG m I) (hw : wn ≤ 5000) : ∀ n j, j + n = m → r11_response_120 i ow bl (nI wn) n j (nI (b + gS I i wn j)) I L = nI (b + gS I i wn m) := by
  intro n
  induction n with
  | zero =>
    intro j hj
    simp only [r11_response_120]
    rw [show j = m by omega]
  | succ n ih =>
    intro j hj
    simp only [r11_response_120]
    rw [rs_term h (show j < m by omega) hw]
    have e : nI (b + gS I i wn j) + (if I 302 (4 * i) ≤ I 302 (4 * j) then 0 else nI (gT I wn j)) = nI (b + gS I i wn (j + 1)) := by
      simp only [gS]
      by_cases hc : I 302 (4 * j) < I 302 (4 * i)
      · rw [if_pos hc, if_neg (Int32.not_le.mpr hc), nI_add]
        congr 1
        omega
      · rw [if_neg hc, if_pos (Int32.not_lt.mp hc)]
        exact Int32.add_zero _
    rw [e]
    exact ih _ (by omega)
def rInv (i m n : Nat) (ow bl wv : Int32) (I : Nat → Nat → Int32) : Prop := ∃ on b wn, on ≤ 1000 ∧ b ≤ 200 ∧ ow = nI on ∧ bl = nI b ∧ wv = nI wn ∧ wn ≤ 20000000 ∧ wn ≤ b + gS I i wn m ∧ 5003 ≤ n + min wn 5001
theorem rInv_wn {i m on wn : Nat} {I : Nat → Nat → Int32} (h : mG m I) (hi : i < m) (h1 : on ≤ 1000) (h2 : wn ≤ 20000000) (hc : ¬ I 302 (4 * i + 2) < nI on + nI wn) : wn ≤ 5000 := by
  obtain ⟨ln, pd, jt, -, -, h3, -, -, e2, -⟩ := h i hi
  rw [e2, nI_add] at hc
  have := (Decidable.not_iff_not.mpr (nI_ltI (show pd < 2 ^ 31 by omega) (show on + wn < 2 ^ 31 by omega))).mp hc
  omega
theorem rInv_step {i m n : Nat} {ow bl wv : Int32} {I : Nat → Nat → Int32} {L : Nat → Nat → Int64} (h : mG m I) (hm8 : m ≤ 8) (hi : i < m) (hv : rInv i m (n + 1) ow bl wv I) (hc : ¬ I 302 (4 * i + 2) < ow + wv) (hne : ¬ r11_response_120 i ow bl wv m 0 bl I L = wv) : rInv i m n ow bl (r11_response_120 i ow bl wv m 0 bl I L) I := by
  obtain ⟨on, b, wn, h1, h2, rfl, rfl, rfl, h3, h4, h5⟩ := hv
  have h6 := rInv_wn h hi h1 h3 hc
  have e := rs_sum (I := I) (L := L) (ow := nI on) (bl := nI b) (i := i) (b := b) h h6 m 0 (by omega)
  rw [show b + gS I i wn 0 = b from rfl] at e
  rw [e] at hne ⊢
  have h7 := gS_le (i := i) h h6 m (Nat.le_refl _)
  have h8 : b + gS I i wn m ≠ wn := fun q => hne (by rw [q])
  refine ⟨on, b, b + gS I i wn m, h1, h2, rfl, rfl, rfl, ?_, ?_, ?_⟩
  · have h9 := Nat.le_trans h7 (Nat.mul_le_mul_right gK hm8)
    rw [gK_eq] at h9
    omega
  · exact Nat.add_le_add_left (gS_mono h4 m) b
  · omega
theorem mG_pd {m : Nat} {I : Nat → Nat → Int32} (h : mG m I) : ∀ k, k < m → ¬ I 302 (4 * k + 2) = 0 := by
  intro k hk
  obtain ⟨ln, pd, jt, -, h1, h2, -, -, e, -⟩ := h k hk
  rw [e]
  exact nI_ne0 h1 (by omega)
theorem mG_bl {m j : Nat} {I : Nat → Nat → Int32} {z : Int32} {c : Prop} [Decidable c] (h : mG m I) (hj : j < m) (hz : ∃ b, b ≤ 200 ∧ z = nI b) : ∃ b, b ≤ 200 ∧ (if c then z else r11_worst (I 302 (4 * j + 1))) = nI b := by
  obtain ⟨ln, pd, jt, h1, -, -, -, e, -, -⟩ := h j hj
  split
  · exact hz
  · rw [e, worst_N h1]
    have := wN_le h1
    exact ⟨_, by omega, rfl⟩
theorem mG_ow {m i : Nat} {I : Nat → Nat → Int32} (h : mG m I) (hj : i < m) : ∃ on, on ≤ 1000 ∧ (I 302 (4 * i + 3)) + (r11_worst (I 302 (4 * i + 1))) = nI on := by
  obtain ⟨ln, pd, jt, h1, -, -, h4, e1, -, e3⟩ := h i hj
  have := wN_le h1
  rw [e1, e3, worst_N h1, nI_add]
  exact ⟨_, by omega, rfl⟩

def r11_response_97 (i : Nat) : Nat → Nat → Int32 → Int32 → Int32 → (Nat → Nat → Int32) → (Nat → Nat → Int64) → Int32
  | 0, m, ow, bl, wv, I, L => 0
  | n + 1, m, ow, bl, wv, I, L => (if I 302 (4 * i + 2) < ow + wv then (-5) else (if r11_response_120 i ow bl wv m 0 bl I L = wv then ow + wv else r11_response_97 i n m ow bl (r11_response_120 i ow bl wv m 0 bl I L) I L))
set_option maxRecDepth 4000 in
theorem t11_response_97 (g : GlT)  (i : Nat) (m : Nat) (hm8 : m ≤ 8) (him : i < m) : ∀ (n m : Nat) (ow : Int32) (bl : Int32) (wv : Int32) (I : Nat → Nat → Int32) (L : Nat → Nat → Int64), (hm8 : m ≤ 8) → (him : i < m) → (hm : I 296 7 = nI m) → (hg : mG m I) → (hiv : rInv i m n ow bl wv I) → ∀ (Q : Option Value → MemT → Prop), Q (some (.int (r11_response_97 i n m ow bl wv I L))) (I, L, R0, 305) → V g (k11_response, 2, 0, 0) 0 0 97 [(0, .ref (xA g 296)), (1, .int (nI i)), (2, .int ow), (3, .int bl), (4, .int wv)] [] (I, L, R0, 305) Q := by
  intro n
  induction n with
  | zero =>
    intro m ow bl wv I L hm8 him hm hg hiv Q hq
    obtain ⟨on, b, wn, -, -, -, -, -, -, -, h⟩ := hiv; exact absurd h (by omega)
  | succ n ih =>
    intro m ow bl wv I L hm8 him hm hg hiv Q hq
    refine V_iload_n (pc1 := 98) 2 d11_response_97 rfl rfl ?_
    refine V_iload (pc1 := 100) 4 d11_response_98 rfl rfl ?_
    refine V_iadd (pc1 := 101) d11_response_100 rfl ?_
    refine V_aload_n (pc1 := 102) 0 d11_response_101 rfl rfl ?_
    refine V_getr (pc1 := 105) ly296 (lt305 rfl) f11_26 (fun _ => rfl) rf296_6 d11_response_102 rfl ?_
    refine V_iconst (pc1 := 106) d11_response_105 vc_4 rfl ?_
    refine V_iload_n (pc1 := 107) 1 d11_response_106 rfl rfl ?_
    refine V_mulN (pc1 := 108) (a := 4) (b := i) (c := 4 * i) rfl rfl (by omega) d11_response_107 rfl ?_
    refine V_iconst (pc1 := 109) d11_response_108 vc_2 rfl ?_
    refine V_addN (pc1 := 110) (a := 4 * i) (b := 2) (c := 4 * i + 2) rfl rfl (by omega) d11_response_109 rfl ?_
    refine V_iald2 (pc1 := 111) (4 * i + 2) ly302 (lt305 rfl) rfl (by omega) rfl d11_response_110 rfl ?_
    refine V_icmp_gt (tgt := 231) (pc1 := 114) d11_response_111 (by decide) rfl (fun h1 => ?_) (fun h1 => ?_)
    · skip
      refine V_bipush (pc1 := 233) d11_response_231 vb_m5 rfl ?_
      refine V_iret rfl d11_response_233 (Nat.zero_le _) (Nat.zero_le _) ?_
      have hq2 := hq
      simp only [r11_response_97, if_pos h1] at hq2
      exact hq2
    · skip
      refine V_iload_n (pc1 := 115) 3 d11_response_114 rfl rfl ?_
      refine V_istore (pc1 := 117) d11_response_115 (Nat.le_of_ble_eq_true rfl) rfl rfl ?_
      refine V_iconst (pc1 := 118) d11_response_117 vc_0 rfl ?_
      refine V_istore (pc1 := 120) d11_response_118 (Nat.le_of_ble_eq_true rfl) rfl rfl ?_
      refine V_lv (lv1 := [(0, .ref (xA g 296)), (1, .int (nI i)), (2, .int ow), (3, .int bl), (4, .int wv), (5, .int bl), (6, .int 0)]) (lvsub_p [2, 3, 4, 5, 6, 1, 0] rfl) ?_
      refine t11_response_120 g i ow bl wv m hm8 him m 0 bl I L hm (mG_pd hg) (by omega) Q ?_
      refine V_iload (pc1 := 214) 5 d11_response_212 rfl rfl ?_
      refine V_iload (pc1 := 216) 4 d11_response_214 rfl rfl ?_
      refine V_icmp_ne (tgt := 224) (pc1 := 219) d11_response_216 (by decide) rfl (fun h2 => ?_) (fun h2 => ?_)
      · skip
        refine V_iload (pc1 := 226) 5 d11_response_224 rfl rfl ?_
        refine V_istore (pc1 := 228) d11_response_226 (Nat.le_of_ble_eq_true rfl) rfl rfl ?_
        refine V_goto (tgt := 97) d11_response_228 (by decide) ?_
        refine V_lv (lv1 := [(0, .ref (xA g 296)), (1, .int (nI i)), (2, .int ow), (3, .int bl), (4, .int (r11_response_120 i ow bl wv m 0 bl I L))]) (lvsub_p [1, 2, 3, 4, 0] rfl) ?_
        have hq2 := hq
        simp only [r11_response_97, if_neg h1, if_neg h2] at hq2
        exact ih m ow bl (r11_response_120 i ow bl wv m 0 bl I L) I L hm8 him hm hg (rInv_step hg hm8 him hiv h1 h2) Q hq2
      · skip
        refine V_iload_n (pc1 := 220) 2 d11_response_219 rfl rfl ?_
        refine V_iload (pc1 := 222) 4 d11_response_220 rfl rfl ?_
        refine V_iadd (pc1 := 223) d11_response_222 rfl ?_
        refine V_iret rfl d11_response_223 (Nat.zero_le _) (Nat.zero_le _) ?_
        have hq2 := hq
        simp only [r11_response_97, if_neg h1, if_pos h2] at hq2
        exact hq2
def r11_response_30 (i : Nat) : Nat → Nat → Nat → Int32 → Int32 → (Nat → Nat → Int32) → (Nat → Nat → Int64) → Int32
  | 0, j, m, ow, z, I, L => r11_response_97 i 5003 m ow z z I L
  | n + 1, j, m, ow, z, I, L => r11_response_30 i n (j + 1) m ow (if (I 302 (4 * j) ≤ I 302 (4 * i)) ∨ (r11_worst (I 302 (4 * j + 1)) ≤ z) then z else r11_worst (I 302 (4 * j + 1))) I L
set_option maxRecDepth 4000 in
theorem t11_response_30 (g : GlT)  (i : Nat) (m : Nat) (hm8 : m ≤ 8) (him : i < m) : ∀ (n j m : Nat) (ow : Int32) (z : Int32) (I : Nat → Nat → Int32) (L : Nat → Nat → Int64), (hm8 : m ≤ 8) → (him : i < m) → (hm : I 296 7 = nI m) → (hg : mG m I) → (how : ∃ on, on ≤ 1000 ∧ ow = nI on) → (hz : ∃ b, b ≤ 200 ∧ z = nI b) → (hn : j + n = m) → ∀ (Q : Option Value → MemT → Prop), Q (some (.int (r11_response_30 i n j m ow z I L))) (I, L, R0, 305) → V g (k11_response, 2, 0, 0) 0 0 30 [(0, .ref (xA g 296)), (1, .int (nI i)), (2, .int ow), (3, .int z), (4, .int (nI j))] [] (I, L, R0, 305) Q := by
  intro n
  induction n with
  | zero =>
    intro j m ow z I L hm8 him hm hg how hz hn Q hq
    refine V_iload (pc1 := 32) 4 d11_response_30 rfl rfl ?_
    refine V_aload_n (pc1 := 33) 0 d11_response_32 rfl rfl ?_
    refine V_geti (pc1 := 36) ly296 (lt305 rfl) f11_201 (fun _ => rfl) hm d11_response_33 rfl ?_
    refine V_icmp_ge (tgt := 94) (pc1 := 39) d11_response_36 (by decide) rfl (fun _ => ?_) (fun h1 => absurd (nI_le (by omega) (by omega)) h1)
    refine V_iload_n (pc1 := 95) 3 d11_response_94 rfl rfl ?_
    refine V_istore (pc1 := 97) d11_response_95 (Nat.le_of_ble_eq_true rfl) rfl rfl ?_
    refine V_lv (lv1 := [(0, .ref (xA g 296)), (1, .int (nI i)), (2, .int ow), (3, .int z), (4, .int z)]) (lvsub_p [1, 2, 3, 4, 0] rfl) ?_
    have hq2 := hq
    simp only [r11_response_30] at hq2
    exact t11_response_97 g  _ _ hm8 him 5003 m ow z z I L hm8 him hm hg (by obtain ⟨b, hb1, hb2⟩ := hz; obtain ⟨on, ho1, ho2⟩ := how; exact ⟨on, b, b, ho1, hb1, ho2, hb2, hb2, by omega, Nat.le_add_right _ _, by omega⟩) Q hq2
  | succ n ih =>
    intro j m ow z I L hm8 him hm hg how hz hn Q hq
    refine V_iload (pc1 := 32) 4 d11_response_30 rfl rfl ?_
    refine V_aload_n (pc1 := 33) 0 d11_response_32 rfl rfl ?_
    refine V_geti (pc1 := 36) ly296 (lt305 rfl) f11_201 (fun _ => rfl) hm d11_response_33 rfl ?_
    refine V_icmp_ge (tgt := 94) (pc1 := 39) d11_response_36 (by decide) rfl (fun h1 => absurd h1 (nI_ge (by omega) (by omega))) (fun _ => ?_)
    refine V_aload_n (pc1 := 40) 0 d11_response_39 rfl rfl ?_
    refine V_getr (pc1 := 43) ly296 (lt305 rfl) f11_26 (fun _ => rfl) rf296_6 d11_response_40 rfl ?_
    refine V_iconst (pc1 := 44) d11_response_43 vc_4 rfl ?_
    refine V_iload (pc1 := 46) 4 d11_response_44 rfl rfl ?_
    refine V_mulN (pc1 := 47) (a := 4) (b := j) (c := 4 * j) rfl rfl (by omega) d11_response_46 rfl ?_
    refine V_iconst (pc1 := 48) d11_response_47 vc_1 rfl ?_
    refine V_addN (pc1 := 49) (a := 4 * j) (b := 1) (c := 4 * j + 1) rfl rfl (by omega) d11_response_48 rfl ?_
    refine V_iald2 (pc1 := 50) (4 * j + 1) ly302 (lt305 rfl) rfl (by omega) rfl d11_response_49 rfl ?_
    refine V_si (pc1 := 53) (w11_worst g  (I 302 (4 * j + 1))  I L ) s11_worst l11_62 rfl rfl ⟨Nat.le_of_ble_eq_true rfl, Nat.le_of_ble_eq_true rfl, Nat.le_refl _, Nat.le_refl _⟩ (Nat.le_of_ble_eq_true rfl) rfl d11_response_50 rfl ?_
    refine V_istore (pc1 := 55) d11_response_53 (Nat.le_of_ble_eq_true rfl) rfl rfl ?_
    refine V_aload_n (pc1 := 56) 1 d11_response_55 rfl rfl ?_
    refine V_getr (pc1 := 59) ly296 (lt305 rfl) f11_26 (fun _ => rfl) rf296_6 d11_response_56 rfl ?_
    refine V_iconst (pc1 := 60) d11_response_59 vc_4 rfl ?_
    refine V_iload (pc1 := 62) 5 d11_response_60 rfl rfl ?_
    refine V_mulN (pc1 := 63) (a := 4) (b := j) (c := 4 * j) rfl rfl (by omega) d11_response_62 rfl ?_
    refine V_iald2 (pc1 := 64) (4 * j) ly302 (lt305 rfl) rfl (by omega) rfl d11_response_63 rfl ?_
    refine V_aload_n (pc1 := 65) 1 d11_response_64 rfl rfl ?_
    refine V_getr (pc1 := 68) ly296 (lt305 rfl) f11_26 (fun _ => rfl) rf296_6 d11_response_65 rfl ?_
    refine V_iconst (pc1 := 69) d11_response_68 vc_4 rfl ?_
    refine V_iload_n (pc1 := 70) 2 d11_response_69 rfl rfl ?_
    refine V_mulN (pc1 := 71) (a := 4) (b := i) (c := 4 * i) rfl rfl (by omega) d11_response_70 rfl ?_
    refine V_iald2 (pc1 := 72) (4 * i) ly302 (lt305 rfl) rfl (by omega) rfl d11_response_71 rfl ?_
    have key7 : ∀ (y87_0 : Int32), y87_0 = (if (I 302 (4 * j) ≤ I 302 (4 * i)) ∨ (r11_worst (I 302 (4 * j + 1)) ≤ z) then z else r11_worst (I 302 (4 * j + 1))) → ∀ (lv : List (Nat × Value)), lvsub [(5, .int (r11_worst (I 302 (4 * j + 1)))), (0, .ref (xA g 296)), (1, .int (nI i)), (2, .int ow), (3, .int z), (4, .int (nI j))] lv → V g (k11_response, 2, 0, 0) 0 0 87 lv [.int y87_0] (I, L, R0, 305) Q := by
      intro y87_0 ey87_0
      subst ey87_0
      intro lv hlv
      refine V_lv hlv ?_
      refine V_istore_n (pc1 := 88) d11_response_87 (Nat.le_of_ble_eq_true rfl) rfl rfl ?_
      refine V_iinc (pc1 := 91) 5 (v := nI (j + 1)) d11_response_88 rfl (nI_1 _) (Nat.le_of_ble_eq_true rfl) rfl rfl ?_
      refine V_goto (tgt := 30) d11_response_91 (by decide) ?_
      refine V_lv (lv1 := [(0, .ref (xA g 296)), (1, .int (nI i)), (2, .int ow), (3, .int (if (I 302 (4 * j) ≤ I 302 (4 * i)) ∨ (r11_worst (I 302 (4 * j + 1)) ≤ z) then z else r11_worst (I 302 (4 * j + 1)))), (4, .int (nI (j + 1)))]) (lvsub_p [3, 4, 5, 1, 0] rfl) ?_
      have hq2 := hq
      simp only [r11_response_30] at hq2
      exact ih (j + 1) m ow (if (I 302 (4 * j) ≤ I 302 (4 * i)) ∨ (r11_worst (I 302 (4 * j + 1)) ≤ z) then z else r11_worst (I 302 (4 * j + 1))) I L hm8 him hm hg how (mG_bl hg (by omega) hz) (by omega) Q hq2
    have k3 : ((I 302 (4 * j) ≤ I 302 (4 * i)) ∨ (r11_worst (I 302 (4 * j + 1)) ≤ z)) → V g (k11_response, 2, 0, 0) 0 0 86 [(5, .int (r11_worst (I 302 (4 * j + 1)))), (0, .ref (xA g 296)), (1, .int (nI i)), (2, .int ow), (3, .int z), (4, .int (nI j))] [] (I, L, R0, 305) Q := by
      intro h2
      refine V_iload_n (pc1 := 87) 4 d11_response_86 rfl rfl ?_
      exact key7 _ (by first | rfl | (simp only [if_pos h2]; done) | (simp only [if_pos h2]; rfl)) _ (lvsub_p [0, 1, 2, 3, 4, 5] rfl)
    have k4 : ¬ ((I 302 (4 * j) ≤ I 302 (4 * i)) ∨ (r11_worst (I 302 (4 * j + 1)) ≤ z)) → V g (k11_response, 2, 0, 0) 0 0 81 [(5, .int (r11_worst (I 302 (4 * j + 1)))), (0, .ref (xA g 296)), (1, .int (nI i)), (2, .int ow), (3, .int z), (4, .int (nI j))] [] (I, L, R0, 305) Q := by
      intro h2
      refine V_iload (pc1 := 83) 0 d11_response_81 rfl rfl ?_
      refine V_goto (tgt := 87) d11_response_83 (by decide) ?_
      exact key7 _ (by first | rfl | (simp only [if_neg h2]; done) | (simp only [if_neg h2]; rfl)) _ (lvsub_p [0, 1, 2, 3, 4, 5] rfl)
    refine V_icmp_le (tgt := 86) (pc1 := 75) d11_response_72 (by decide) rfl (fun h5 => ?_) (fun h5 => ?_)
    · skip
      exact k3 (Or.inl h5)
    · skip
      refine V_iload (pc1 := 77) 0 d11_response_75 rfl rfl ?_
      refine V_iload_n (pc1 := 78) 4 d11_response_77 rfl rfl ?_
      refine V_icmp_le (tgt := 86) (pc1 := 81) d11_response_78 (by decide) rfl (fun h6 => ?_) (fun h6 => ?_)
      · skip
        exact k3 (Or.inr h6)
      · skip
        exact k4 (fun z => z.elim h5 h6)
def r11_response (i : Nat) (I : Nat → Nat → Int32) (L : Nat → Nat → Int64) : Int32 := r11_response_30 i ((I 296 7).toNatClampNeg) 0 ((I 296 7).toNatClampNeg) ((I 302 (4 * i + 3)) + (r11_worst (I 302 (4 * i + 1)))) 0 I L
set_option maxRecDepth 4000 in
theorem v11_response (g : GlT)  (i : Nat) (m : Nat) (hm8 : m ≤ 8) (him : i < m) (I : Nat → Nat → Int32) (L : Nat → Nat → Int64) (hm : I 296 7 = nI m) (hg : mG m I) (Q : Option Value → MemT → Prop) (hq : Q (some (.int (r11_response i I L))) (I, L, R0, 305)) : V g (k11_response, 2, 0, 0) 0 0 0 [(0, .ref (xA g 296)), (1, .int (nI i))] [] (I, L, R0, 305) Q := by
  have hm3 : (I 296 7).toNatClampNeg = m := by rw [hm]; exact nI_clamp (by omega)
  refine V_aload_n (pc1 := 1) 0 d11_response_0 rfl rfl ?_
  refine V_getr (pc1 := 4) ly296 (lt305 rfl) f11_26 (fun _ => rfl) rf296_6 d11_response_1 rfl ?_
  refine V_iconst (pc1 := 5) d11_response_4 vc_4 rfl ?_
  refine V_iload_n (pc1 := 6) 1 d11_response_5 rfl rfl ?_
  refine V_mulN (pc1 := 7) (a := 4) (b := i) (c := 4 * i) rfl rfl (by omega) d11_response_6 rfl ?_
  refine V_iconst (pc1 := 8) d11_response_7 vc_3 rfl ?_
  refine V_addN (pc1 := 9) (a := 4 * i) (b := 3) (c := 4 * i + 3) rfl rfl (by omega) d11_response_8 rfl ?_
  refine V_iald2 (pc1 := 10) (4 * i + 3) ly302 (lt305 rfl) rfl (by omega) rfl d11_response_9 rfl ?_
  refine V_aload_n (pc1 := 11) 0 d11_response_10 rfl rfl ?_
  refine V_getr (pc1 := 14) ly296 (lt305 rfl) f11_26 (fun _ => rfl) rf296_6 d11_response_11 rfl ?_
  refine V_iconst (pc1 := 15) d11_response_14 vc_4 rfl ?_
  refine V_iload_n (pc1 := 16) 1 d11_response_15 rfl rfl ?_
  refine V_mulN (pc1 := 17) (a := 4) (b := i) (c := 4 * i) rfl rfl (by omega) d11_response_16 rfl ?_
  refine V_iconst (pc1 := 18) d11_response_17 vc_1 rfl ?_
  refine V_addN (pc1 := 19) (a := 4 * i) (b := 1) (c := 4 * i + 1) rfl rfl (by omega) d11_response_18 rfl ?_
  refine V_iald2 (pc1 := 20) (4 * i + 1) ly302 (lt305 rfl) rfl (by omega) rfl d11_response_19 rfl ?_
  refine V_si (pc1 := 23) (w11_worst g  (I 302 (4 * i + 1))  I L ) s11_worst l11_62 rfl rfl ⟨Nat.le_of_ble_eq_true rfl, Nat.le_of_ble_eq_true rfl, Nat.le_refl _, Nat.le_refl _⟩ (Nat.le_of_ble_eq_true rfl) rfl d11_response_20 rfl ?_
  refine V_iadd (pc1 := 24) d11_response_23 rfl ?_
  refine V_istore_n (pc1 := 25) d11_response_24 (Nat.le_of_ble_eq_true rfl) rfl rfl ?_
  refine V_iconst (pc1 := 26) d11_response_25 vc_0 rfl ?_
  refine V_istore_n (pc1 := 27) d11_response_26 (Nat.le_of_ble_eq_true rfl) rfl rfl ?_
  refine V_iconst (pc1 := 28) d11_response_27 vc_0 rfl ?_
  refine V_istore (pc1 := 30) d11_response_28 (Nat.le_of_ble_eq_true rfl) rfl rfl ?_
  refine V_lv (lv1 := [(0, .ref (xA g 296)), (1, .int (nI i)), (2, .int ((I 302 (4 * i + 3)) + (r11_worst (I 302 (4 * i + 1))))), (3, .int 0), (4, .int (nI 0))]) (lvsub_p [3, 4, 2, 1, 0] rfl) ?_
  have hq2 := hq
  simp only [r11_response, hm3] at hq2
  exact t11_response_30 g  _ _ hm8 him m 0 m ((I 302 (4 * i + 3)) + (r11_worst (I 302 (4 * i + 1)))) 0 I L hm8 him hm hg (mG_ow hg him) ⟨0, by omega, rfl⟩ (by omega) Q hq2
theorem w11_response (g : GlT)  (i : Nat) (m : Nat) (hm8 : m ≤ 8) (him : i < m) (I : Nat → Nat → Int32) (L : Nat → Nat → Int64) (hm : I 296 7 = nI m) (hg : mG m I) : Call g (k11_response, 2, 0, 0) [.ref (xA g 296), .int (nI i)] (I, L, R0, 305) (Qi (r11_response i I L) (I) L) := Call.of (by decide) (Nat.le_of_ble_eq_true rfl) rfl (v11_response g  i m hm8 him I L hm hg _ (And.intro rfl rfl))


def r11_responseTime (idn : Int32) (I : Nat → Nat → Int32) (L : Nat → Nat → Int64) : Int32 := (if 0 ≤ r11_messageOf idn I L then r11_response ((r11_messageOf idn I L).toNatClampNeg) I L else (-2))
set_option maxRecDepth 4000 in
theorem v11_responseTime (g : GlT)  (idn : Int32) (m : Nat) (hm8 : m ≤ 8) (I : Nat → Nat → Int32) (L : Nat → Nat → Int64) (hm : I 296 7 = nI m) (hg : mG m I) (Q : Option Value → MemT → Prop) (hq : Q (some (.int (r11_responseTime idn I L))) (I, L, R0, 305)) : V g (k11_responseTime, 3, 0, 0) 0 0 0 [(0, .ref (xA g 296)), (1, .int idn)] [] (I, L, R0, 305) Q := by
  have hm3 : (I 296 7).toNatClampNeg = m := by rw [hm]; exact nI_clamp (by omega)
  refine V_aload_n (pc1 := 1) 0 d11_responseTime_0 rfl rfl ?_
  refine V_iload_n (pc1 := 2) 1 d11_responseTime_1 rfl rfl ?_
  refine V_vi (pc1 := 5) (w11_messageOf g  idn m hm8 I L hm) ly296 (lt305 rfl) s11_messageOf l11_205 rfl rfl ⟨Nat.le_of_ble_eq_true rfl, Nat.le_of_ble_eq_true rfl, Nat.le_refl _, Nat.le_refl _⟩ (Nat.le_of_ble_eq_true rfl) rfl d11_responseTime_2 rfl ?_
  refine V_istore_n (pc1 := 6) d11_responseTime_5 (Nat.le_of_ble_eq_true rfl) rfl rfl ?_
  refine V_iload_n (pc1 := 7) 0 d11_responseTime_6 rfl rfl ?_
  have key2 : ∀ (z20_2 : Int32), z20_2 = (if 0 ≤ r11_messageOf idn I L then nI ((r11_messageOf idn I L).toNatClampNeg) else r11_messageOf idn I L) → ∀ (y20_0 : Int32), y20_0 = (if 0 ≤ r11_messageOf idn I L then r11_response ((r11_messageOf idn I L).toNatClampNeg) I L else (-2)) → ∀ (lv : List (Nat × Value)), lvsub [(2, .int z20_2), (0, .ref (xA g 296)), (1, .int idn)] lv → V g (k11_responseTime, 3, 0, 0) 0 0 20 lv [.int y20_0] (I, L, R0, 305) Q := by
    intro z20_2 ez20_2 y20_0 ey20_0
    subst ez20_2
    subst ey20_0
    intro lv hlv
    refine V_lv hlv ?_
    refine V_iret rfl d11_responseTime_20 (Nat.zero_le _) (Nat.zero_le _) ?_
    have hq2 := hq
    simp only [r11_responseTime, hm3] at hq2
    exact hq2
  refine V_if_ge (tgt := 15) (pc1 := 10) d11_responseTime_7 (by decide) rfl (fun h1 => ?_) (fun h1 => ?_)
  · skip
    obtain ⟨p, hp, hpe⟩ := mo_p hm hm8 h1
    have hp3 : (r11_messageOf idn I L).toNatClampNeg = p := by rw [hpe]; exact nI_clamp (by omega)
    rw [hpe]
    refine V_aload_n (pc1 := 16) 1 d11_responseTime_15 rfl rfl ?_
    refine V_iload_n (pc1 := 17) 0 d11_responseTime_16 rfl rfl ?_
    refine V_vi (pc1 := 20) (w11_response g  p m hm8 (by omega) I L hm hg) ly296 (lt305 rfl) s11_response l11_208 rfl rfl ⟨Nat.le_of_ble_eq_true rfl, Nat.le_of_ble_eq_true rfl, Nat.le_refl _, Nat.le_refl _⟩ (Nat.le_of_ble_eq_true rfl) rfl d11_responseTime_17 rfl ?_
    exact key2 _ (by first | rfl | (simp only [hm3, if_pos h1, hp3]; done) | (simp only [hm3, if_pos h1, hp3]; rfl)) _ (by first | rfl | (simp only [hm3, if_pos h1, hp3]; done) | (simp only [hm3, if_pos h1, hp3]; rfl)) _ (lvsub_p [0, 1, 2] rfl)
  · skip
    refine V_bipush (pc1 := 12) d11_responseTime_10 vb_m2 rfl ?_
    refine V_goto (tgt := 20) d11_responseTime_12 (by decide) ?_
    exact key2 _ (by first | rfl | (simp only [hm3, if_neg h1]; done) | (simp only [hm3, if_neg h1]; rfl)) _ (by first | rfl | (simp only [hm3, if_neg h1]; done) | (simp only [hm3, if_neg h1]; rfl)) _ (lvsub_p [0, 1, 2] rfl)
theorem w11_responseTime (g : GlT)  (idn : Int32) (m : Nat) (hm8 : m ≤ 8) (I : Nat → Nat → Int32) (L : Nat → Nat → Int64) (hm : I 296 7 = nI m) (hg : mG m I) : Call g (k11_responseTime, 3, 0, 0) [.ref (xA g 296), .int idn] (I, L, R0, 305) (Qi (r11_responseTime idn I L) (I) L) := Call.of (by decide) (Nat.le_of_ble_eq_true rfl) rfl (v11_responseTime g  idn m hm8 I L hm hg _ (And.intro rfl rfl))


def r11_misses_4 : Nat → Nat → Int32 → (Nat → Nat → Int32) → (Nat → Nat → Int64) → Int32
  | 0, j, z, I, L => z
  | n + 1, j, z, I, L => r11_misses_4  n (j + 1) (z + (bI (if r11_response j I L = (-5) then true else false))) I L
set_option maxRecDepth 4000 in
theorem t11_misses_4 (g : GlT)  (m : Nat) (hm8 : m ≤ 8) : ∀ (n j : Nat) (z : Int32) (I : Nat → Nat → Int32) (L : Nat → Nat → Int64), (hm : I 296 7 = nI m) → (hg : mG m I) → (hn : j + n = m) → ∀ (Q : Option Value → MemT → Prop), Q (some (.int (r11_misses_4 n j z I L))) (I, L, R0, 305) → V g (k11_misses, 3, 0, 0) 0 0 4 [(0, .ref (xA g 296)), (1, .int z), (2, .int (nI j))] [] (I, L, R0, 305) Q := by
  intro n
  induction n with
  | zero =>
    intro j z I L hm hg hn Q hq
    refine V_iload_n (pc1 := 5) 2 d11_misses_4 rfl rfl ?_
    refine V_aload_n (pc1 := 6) 0 d11_misses_5 rfl rfl ?_
    refine V_geti (pc1 := 9) ly296 (lt305 rfl) f11_201 (fun _ => rfl) hm d11_misses_6 rfl ?_
    refine V_icmp_ge (tgt := 36) (pc1 := 12) d11_misses_9 (by decide) rfl (fun _ => ?_) (fun h1 => absurd (nI_le (by omega) (by omega)) h1)
    refine V_iload_n (pc1 := 37) 1 d11_misses_36 rfl rfl ?_
    refine V_iret rfl d11_misses_37 (Nat.zero_le _) (Nat.zero_le _) ?_
    have hq2 := hq
    simp only [r11_misses_4] at hq2
    exact hq2
  | succ n ih =>
    intro j z I L hm hg hn Q hq
    refine V_iload_n (pc1 := 5) 2 d11_misses_4 rfl rfl ?_
    refine V_aload_n (pc1 := 6) 0 d11_misses_5 rfl rfl ?_
    refine V_geti (pc1 := 9) ly296 (lt305 rfl) f11_201 (fun _ => rfl) hm d11_misses_6 rfl ?_
    refine V_icmp_ge (tgt := 36) (pc1 := 12) d11_misses_9 (by decide) rfl (fun h1 => absurd h1 (nI_ge (by omega) (by omega))) (fun _ => ?_)
    refine V_iload_n (pc1 := 13) 1 d11_misses_12 rfl rfl ?_
    refine V_aload_n (pc1 := 14) 0 d11_misses_13 rfl rfl ?_
    refine V_iload_n (pc1 := 15) 2 d11_misses_14 rfl rfl ?_
    refine V_vi (pc1 := 18) (w11_response g  j m hm8 (by omega) I L hm hg) ly296 (lt305 rfl) s11_response l11_208 rfl rfl ⟨Nat.le_of_ble_eq_true rfl, Nat.le_of_ble_eq_true rfl, Nat.le_refl _, Nat.le_refl _⟩ (Nat.le_of_ble_eq_true rfl) rfl d11_misses_15 rfl ?_
    refine V_bipush (pc1 := 20) d11_misses_18 vb_m5 rfl ?_
    have key3 : ∀ (y28_0 : Int32), y28_0 = bI (if r11_response j I L = (-5) then true else false) → ∀ (lv : List (Nat × Value)), lvsub [(0, .ref (xA g 296)), (1, .int z), (2, .int (nI j))] lv → V g (k11_misses, 3, 0, 0) 0 0 28 lv [.int y28_0, .int z] (I, L, R0, 305) Q := by
      intro y28_0 ey28_0
      subst ey28_0
      intro lv hlv
      refine V_lv hlv ?_
      refine V_iadd (pc1 := 29) d11_misses_28 rfl ?_
      refine V_istore_n (pc1 := 30) d11_misses_29 (Nat.le_of_ble_eq_true rfl) rfl rfl ?_
      refine V_iinc (pc1 := 33) 2 (v := nI (j + 1)) d11_misses_30 rfl (nI_1 _) (Nat.le_of_ble_eq_true rfl) rfl rfl ?_
      refine V_goto (tgt := 4) d11_misses_33 (by decide) ?_
      refine V_lv (lv1 := [(0, .ref (xA g 296)), (1, .int (z + (bI (if r11_response j I L = (-5) then true else false)))), (2, .int (nI (j + 1)))]) (lvsub_p [2, 1, 0] rfl) ?_
      have hq2 := hq
      simp only [r11_misses_4] at hq2
      exact ih (j + 1) (z + (bI (if r11_response j I L = (-5) then true else false))) I L hm hg (by omega) Q hq2
    refine V_icmp_ne (tgt := 27) (pc1 := 23) d11_misses_20 (by decide) rfl (fun h2 => ?_) (fun h2 => ?_)
    · skip
      refine V_iconst (pc1 := 28) d11_misses_27 vc_0 rfl ?_
      exact key3 _ (by first | rfl | (simp only [if_neg h2]; done) | (simp only [if_neg h2]; rfl)) _ (lvsub_p [0, 1, 2] rfl)
    · skip
      refine V_iconst (pc1 := 24) d11_misses_23 vc_1 rfl ?_
      refine V_goto (tgt := 28) d11_misses_24 (by decide) ?_
      exact key3 _ (by first | rfl | (simp only [if_pos h2]; done) | (simp only [if_pos h2]; rfl)) _ (lvsub_p [0, 1, 2] rfl)
def r11_misses (I : Nat → Nat → Int32) (L : Nat → Nat → Int64) : Int32 := r11_misses_4  ((I 296 7).toNatClampNeg) 0 0 I L
set_option maxRecDepth 4000 in
theorem v11_misses (g : GlT)  (m : Nat) (hm8 : m ≤ 8) (I : Nat → Nat → Int32) (L : Nat → Nat → Int64) (hm : I 296 7 = nI m) (hg : mG m I) (Q : Option Value → MemT → Prop) (hq : Q (some (.int (r11_misses I L))) (I, L, R0, 305)) : V g (k11_misses, 3, 0, 0) 0 0 0 [(0, .ref (xA g 296))] [] (I, L, R0, 305) Q := by
  have hm3 : (I 296 7).toNatClampNeg = m := by rw [hm]; exact nI_clamp (by omega)
  refine V_iconst (pc1 := 1) d11_misses_0 vc_0 rfl ?_
  refine V_istore_n (pc1 := 2) d11_misses_1 (Nat.le_of_ble_eq_true rfl) rfl rfl ?_
  refine V_iconst (pc1 := 3) d11_misses_2 vc_0 rfl ?_
  refine V_istore_n (pc1 := 4) d11_misses_3 (Nat.le_of_ble_eq_true rfl) rfl rfl ?_
  refine V_lv (lv1 := [(0, .ref (xA g 296)), (1, .int 0), (2, .int (nI 0))]) (lvsub_p [2, 1, 0] rfl) ?_
  have hq2 := hq
  simp only [r11_misses, hm3] at hq2
  exact t11_misses_4 g   _ hm8 m 0 0 I L hm hg (by omega) Q hq2
theorem w11_misses (g : GlT)  (m : Nat) (hm8 : m ≤ 8) (I : Nat → Nat → Int32) (L : Nat → Nat → Int64) (hm : I 296 7 = nI m) (hg : mG m I) : Call g (k11_misses, 3, 0, 0) [.ref (xA g 296)] (I, L, R0, 305) (Qi (r11_misses I L) (I) L) := Call.of (by decide) (Nat.le_of_ble_eq_true rfl) rfl (v11_misses g   m hm8 I L hm hg _ (And.intro rfl rfl))

