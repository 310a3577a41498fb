/-! a node's bit time leaves the other nodes as they are -/
section OF
variable {t k l i : Nat} {C J K : Nat → Nat → Int32} {D L : Nat → Nat → Int64} {x : Int32}
def oF (i : Nat) (J K : Nat → Nat → Int32) : Prop := (∀ a, a ≠ 297 → K a = J a) ∧ ∀ b, (b < 256 * i ∨ 256 * i + 256 ≤ b) → K 297 b = J 297 b
theorem oF.rf (i : Nat) (J : Nat → Nat → Int32) : oF i J J := ⟨fun _ _ => rfl, fun _ _ => rfl⟩
theorem oF.tr {M : Nat → Nat → Int32} (h : oF i J K) (g : oF i K M) : oF i J M := ⟨fun a ha => (g.1 a ha).trans (h.1 a ha), fun b hb => (g.2 b hb).trans (h.2 b hb)⟩
theorem oF.u {y : Nat} {z : Int32} (h : oF i J K) (h1 : 256 * i ≤ y) (h2 : y < 256 * i + 256) : oF i J (uI K 297 y z) := h.tr ⟨fun a ha => uI_off _ _ _ ha, fun b hb => uI_ne _ _ _ (by omega)⟩
theorem oF.ite {c : Prop} [Decidable c] {A B : Nat → Nat → Int32} (h : c → oF i J A) (g : ¬ c → oF i J B) : oF i J (if c then A else B) := by
  by_cases q : c
  · rw [if_pos q]; exact h q
  · rw [if_neg q]; exact g q
theorem oF.rl : oF i J (i11_releases i J L) := by
  unfold i11_releases
  exact ((((oF.rf i J).u (by omega) (by omega)).u (by omega) (by omega)).u (by omega) (by omega)).u (by omega) (by omega)
theorem oF.go : oF i J (i11_goes i x J L) := by
  unfold i11_goes
  refine oF.u ?_ (by omega) (by omega)
  have h1 : oF i J (if (r11_in x 4 8) = true then uI (uI (uI J 297 (256 * i) x) 297 (256 * i + 2) 0) 297 (256 * i + 3) 0 else uI (uI (uI (uI J 297 (256 * i) x) 297 (256 * i + 2) 0) 297 (256 * i + 3) 0) 297 (256 * i + 1) 0) := oF.ite (fun _ => (((oF.rf i J).u (by omega) (by omega)).u (by omega) (by omega)).u (by omega) (by omega)) (fun _ => ((((oF.rf i J).u (by omega) (by omega)).u (by omega) (by omega)).u (by omega) (by omega)).u (by omega) (by omega))
  exact oF.ite (fun _ => h1) (fun _ => h1.tr oF.rl)
theorem oF.rc : oF i J (i11_receives i x J L) := by
  unfold i11_receives
  exact (oF.rf i J).u (by omega) (by omega)
theorem oF.er {kd : Nat} (hk : kd ≤ 5) : oF i J (i11_errs i kd J L) := by
  have h1 : oF i J (erJ1 i kd J) := by
    unfold erJ1
    exact ((oF.rf i J).u (by omega) (by omega)).u (by omega) (by omega)
  have h2 : oF i J (erJ2 i kd J L) := by
    unfold erJ2
    exact oF.ite (fun _ => oF.ite (fun _ => h1.u (by omega) (by omega)) (fun _ => h1)) (fun _ => h1.tr oF.rc)
  rw [errs_eq]
  exact oF.ite (fun _ => (h2.tr oF.go).u (by omega) (by omega)) (fun _ => h2.tr oF.go)
theorem oF.bg {z : Nat} (hz : z ≤ 4) (h32 : J 297 (256 * i + 32) = nI z) : oF i J (i11_begins i x J L) := by
  have h1 : oF i J (bgJ i x J L) := by
    unfold bgJ
    exact (((((((oF.go).u (by omega) (by omega)).u (by omega) (by omega)).u (by omega) (by omega)).u (by omega) (by omega)).u (by omega) (by omega)).u (by omega) (by omega)).tr oF.rl
  rw [begins_eq]
  refine oF.ite (fun _ => h1) (fun _ => (h1.u (y := 256 * i + 34) (z := 1) (by omega) (by omega)).tr ⟨fun a ha => ?_, fun b hb => ?_⟩)
  · funext c
    rw [h32, nI_clamp (by omega), laysG rfl, if_neg (fun q => ha q.1)]
  · rw [h32, nI_clamp (by omega), laysG rfl, if_neg]
    have : (if J 297 (256 * i + 31) = 1 then 0 else 8 * z) ≤ 32 := by split <;> omega
    omega
theorem oF.wt {w : Nat} {idn rm ln dt : Int32} (hw : J 297 (256 * i + 23) = nI w) (hw3 : w ≤ 3) : oF i J (i11_waits i idn rm ln dt J L) := by
  refine ⟨fun a ha => x11_waits ha, fun b hb => ?_⟩
  unfold i11_waits
  rw [hw, nI_clamp (by omega)]
  exact wt_sl (by omega) (fun s _ _ => by omega) _ _ _ _ _ hw3
theorem oF.un {p w : Nat} (hp : p ≤ 3) (hw : J 297 (256 * i + 23) = nI w) (hw4 : w ≤ 4) : oF i J (i11_unwaits i p J L) := ⟨fun a ha => un_row ha, fun b hb => un_off hp hw hw4 (by omega)⟩
theorem oF.ac {w q r ln : Nat} (hw : J 297 (256 * i + 23) = nI w) (hw4 : w ≤ 4) (hr : J 297 (256 * i + 24) = nI r) (hr6 : r ≤ 6) : oF i J (i11_accepts i J L) := by
  have h1 : oF i J (accJ i J) := by
    unfold accJ
    exact (oF.rf i J).u (by omega) (by omega)
  have hw2 : (accJ i J) 297 (256 * i + 23) = nI w := by
    unfold accJ
    rw [uI_ne _ _ _ (by omega)]; exact hw
  rw [acc_eqJ, hr, nI_clamp (by omega)]
  refine oF.ite (fun _ => oF.ite (fun _ => oF.ite (fun _ => h1.u (by omega) (by omega)) (fun g => ?_)) (fun _ => oF.ite (fun g => h1.tr (oF.wt hw2 (room_lt hw2 hw4 g))) (fun _ => h1))) (fun _ => h1)
  have := r6_lt hr6 g
  exact ((((h1.u (by omega) (by omega)).u (by omega) (by omega)).u (by omega) (by omega)).u (by omega) (by omega)).u (by omega) (by omega)
theorem oF.en39 {w : Nat} (hw : J 297 (256 * i + 23) = nI w) (hw4 : w ≤ 4) : ∀ n j, j + n ≤ 4 → oF i J (i11_ends_39 i x n j J L) := by
  intro n
  induction n with
  | zero => intro j _; exact oF.rf i J
  | succ n ih =>
    intro j hj
    simp only [i11_ends_39]
    exact oF.ite (fun _ => ih (j + 1) (by omega)) (fun _ => ((((oF.un (by omega) hw hw4).u (by omega) (by omega)).u (by omega) (by omega))).tr oF.go)
theorem oF.en {w : Nat} (hw : J 297 (256 * i + 23) = nI w) (hw4 : w ≤ 4) : oF i J (i11_ends i x J L) := by
  unfold i11_ends
  exact oF.ite (fun _ => oF.ite (fun _ => oF.er (by omega)) (fun _ => oF.go)) (fun _ => oF.ite (fun _ => oF.en39 hw hw4 4 0 (by omega)) (fun _ => oF.go))
theorem oF.tl {w r : Nat} (hw : J 297 (256 * i + 23) = nI w) (hw4 : w ≤ 4) (hr : J 297 (256 * i + 24) = nI r) (hr6 : r ≤ 6) : oF i J (i11_tails i x J L) := by
  have h1 : oF i J (uI J 297 (256 * i + 22) ((J 297 (256 * i + 22)) + 1)) := (oF.rf i J).u (by omega) (by omega)
  have hw2 : (uI J 297 (256 * i + 22) ((J 297 (256 * i + 22)) + 1)) 297 (256 * i + 23) = nI w := by rw [uI_ne _ _ _ (by omega)]; exact hw
  have hr2 : (uI J 297 (256 * i + 22) ((J 297 (256 * i + 22)) + 1)) 297 (256 * i + 24) = nI r := by rw [uI_ne _ _ _ (by omega)]; exact hr
  have ha := h1.tr (oF.ac (L := L) (q := 0) (ln := 0) hw2 hw4 hr2 hr6)
  unfold i11_tails
  refine oF.ite (fun _ => oF.ite (fun _ => h1) (fun _ => h1.tr (oF.er (by omega)))) (fun _ => oF.ite (fun _ => h1.tr (oF.en hw2 hw4)) (fun _ => oF.ite (fun _ => h1.tr (oF.er (by split <;> omega))) (fun _ => oF.ite (fun _ => oF.ite (fun _ => h1) (fun _ => ha)) (fun _ => oF.ite (fun _ => oF.ite (fun _ => h1) (fun _ => ha)) (fun _ => h1.tr (oF.er (by omega)))))))
theorem oF.ej {s b1 : Int32} {M : Nat → Nat → Int32} (h : oF i J M) : oF i J (endJ i s x M L b1) := by
  unfold endJ
  exact oF.ite (fun _ => (h.u (by omega) (by omega)).u (by omega) (by omega)) (fun _ => ((h.u (by omega) (by omega)).u (by omega) (by omega)).u (by omega) (by omega))
theorem oF.ct {bn : Nat} {v s : Int32} {M : Nat → Nat → Int32} (hb : bn < 70) (h : oF i J M) : oF i J (cntJ i bn x v s M L) := by
  have h1 : oF i J (basG i bn x v M) := by
    unfold basG
    exact (h.u (by omega) (by omega)).u (by omega) (by omega)
  unfold cntJ
  exact oF.ite (fun _ => h1.ej) (fun _ => h1.tr (oF.er (by omega)))
theorem oF.st {b : Nat} (hb : J 297 (256 * i + 19) = nI b) (hb7 : b < 70) : oF i J (i11_stuffed i x J L) := by
  rw [st_eq, hb, nI_clamp (by omega)]
  have h1 : oF i J (lstJ i J L) := by
    unfold lstJ
    exact ((((oF.rf i J).u (by omega) (by omega)).u (by omega) (by omega))).tr oF.rl
  exact oF.ite (fun _ => oF.ite (fun _ => oF.ite (fun _ => (oF.rf i J).ej) (fun _ => oF.er (by omega))) (fun _ => oF.er (by omega))) (fun _ => oF.ite (fun _ => oF.ct hb7 (oF.rf i J)) (fun _ => oF.ite (fun _ => oF.er (by omega)) (fun _ => oF.ct hb7 h1)))
theorem oF.acts (h : aOK i J L) : oF i J (i11_acts i x J L) := by
  obtain ⟨⟨w, hw4, hw, -⟩, -, ⟨r, hr6, hr⟩, ⟨z, hz4, hz⟩, hF⟩ := h
  have hc : ∀ v, oF i J (uI J 297 (256 * i + 2) v) := fun v => (oF.rf i J).u (by omega) (by omega)
  have he : oF i J (uI J 297 (256 * i + 3) 0) := (oF.rf i J).u (by omega) (by omega)
  have hz2 : ∀ v, (uI J 297 (256 * i + 2) v) 297 (256 * i + 32) = nI z := fun v => by rw [uI_ne _ _ _ (by omega)]; exact hz
  unfold i11_acts
  refine oF.ite (fun _ => ?_) (fun _ => oF.ite (fun _ => oF.ite (fun _ => (hc _).tr oF.go) (fun _ => hc _)) (fun _ => oF.ite (fun _ => ?_) (fun _ => oF.ite (fun p4 => oF.ite (fun _ => oF.tl hw hw4 hr hr6) (fun g => ?_)) (fun _ => oF.ite (fun _ => ?_) (fun _ => oF.ite (fun _ => ?_) (fun _ => oF.ite (fun _ => ?_) (fun _ => oF.ite (fun _ => ?_) (fun _ => oF.ite (fun _ => ?_) (fun _ => oF.rf i J)))))))))
  · unfold i11_recovers
    refine oF.ite (fun _ => oF.ite (fun _ => ((hc _).u (by omega) (by omega)).u (by omega) (by omega)) (fun _ => (((((hc _).u (by omega) (by omega)).u (by omega) (by omega)).u (by omega) (by omega)).u (by omega) (by omega)).tr oF.go)) (fun _ => hc _)
  · unfold i11_idles
    exact oF.ite (fun _ => oF.bg hz4 hz) (fun _ => oF.ite (fun _ => ((oF.rf i J).u (by omega) (by omega)).tr (oF.er (by omega))) (fun _ => oF.rf i J))
  · obtain ⟨b, hb7, hb⟩ := (hF p4).1 g
    exact oF.st hb hb7
  · unfold i11_flags
    exact oF.ite (fun _ => ((hc _).tr oF.go).u (by omega) (by omega)) (fun _ => hc _)
  · unfold i11_flags
    exact oF.ite (fun _ => ((hc _).tr oF.go).u (by omega) (by omega)) (fun _ => hc _)
  · unfold i11_delimits
    exact oF.ite (fun _ => oF.ite (fun _ => (he.u (by omega) (by omega)).tr oF.go) (fun _ => he.u (by omega) (by omega))) (fun _ => oF.ite (fun _ => oF.ite (fun _ => he) (fun _ => he.tr oF.rc)) (fun _ => oF.ite (fun _ => he.tr oF.go) (fun _ => he.tr (oF.er (by omega)))))
  · unfold i11_intermits
    exact oF.ite (fun _ => oF.ite (fun _ => (hc _).tr (oF.bg hz4 (hz2 _))) (fun _ => (hc _).tr oF.go)) (fun _ => oF.ite (fun _ => (hc _).tr oF.go) (fun _ => hc _))
  · unfold i11_suspends
    exact oF.ite (fun _ => (hc _).tr (oF.bg hz4 (hz2 _))) (fun _ => oF.ite (fun _ => (hc _).tr oF.go) (fun _ => hc _))
/-! a node of the reference that is beside one of the class may drive and act -/
theorem NR.dK (h : NR t k i C D J) : dK i J L := by
  intro p4
  obtain ⟨b, e, T, la, bf, hf⟩ := h.2.2.2.2.2.2.2.2 p4
  have hb66 := hf.b66
  have hB := bdN_le hf.1.2.2.2.2.2.2.2
  have hbB := hf.1.2.1
  refine ⟨⟨b, by omega, hf.2.2.1.2⟩, fun g => ?_⟩
  by_cases s : b < bdN b bf + 15 ∨ e = 5
  · rw [(hf.2.2.2.2.2.2.1.2.1 s).2] at g
    exact absurd g (by decide)
  · have hB1 : 19 ≤ bdN b bf := by unfold bdN; split <;> omega
    exact ⟨bdN b bf + 15, by omega, by omega, by rw [tot_N (by omega) hf.2.2.1.2 hf.2.1, if_neg (by omega)]⟩
theorem NR.aOK (h : NR t k i C D J) : aOK i J L := by
  obtain ⟨w, w1, w2, w3, -, -, w6⟩ := h.1.2.2.2.2.2.2.1
  obtain ⟨r, r1, -, r3, -⟩ := h.1.2.2.2.2.2.2.2.1
  obtain ⟨a, a1, -, a3, -⟩ := h.1.2.2.2.2.2.2.2.2
  obtain ⟨z, z1, z2⟩ := w6 0 (by omega)
  refine ⟨⟨w, w1, w3, fun p4 g => ?_⟩, ⟨a, a1, a3⟩, ⟨r, r1, r3⟩, ⟨z, z1, z2⟩, fun p4 => ?_⟩
  · obtain ⟨b, e, T, la, bf, hf⟩ := h.2.2.2.2.2.2.2.2 p4
    have hb66 := hf.b66
    have hB := bdN_le hf.1.2.2.2.2.2.2.2
    have hbB := hf.1.2.1
    have hB1 : 19 ≤ bdN b bf := by unfold bdN; split <;> omega
    by_cases s : b < bdN b bf + 15 ∨ e = 5
    · rw [(hf.2.2.2.2.2.2.1.2.1 s).2] at g
      exact absurd g (by decide)
    · refine ⟨⟨bdN b bf + 15, by omega, by omega, by rw [tot_N (by omega) hf.2.2.1.2 hf.2.1, if_neg (by omega)]⟩, fun tr => ?_⟩
      have c9 := (tr_eq h.1).mp tr
      have h1 : J 297 (256 * i + 1) = 1 := h.1.1.2.resolve_left (fun q => c9 (h.1.1.1.trans q))
      rcases h.2.2.2.2.2.2.2.1 with ⟨s1, -⟩ | ⟨sd, w', s1, s2, s3, s4, s5⟩
      · exact absurd s1 (hf.2.2.2.2.2.2.2 h1).1
      · have : w' = w := (nI_eq (by omega) (by omega)).mp (s3.symm.trans w2)
        refine ⟨by omega, sd, by omega, ?_⟩
        rw [s5 sd (by omega), if_pos rfl]
        decide
  · obtain ⟨b, e, T, la, bf, hf⟩ := h.2.2.2.2.2.2.2.2 p4
    have hb66 := hf.b66
    have hB := bdN_le hf.1.2.2.2.2.2.2.2
    have hbB := hf.1.2.1
    have hB1 : 19 ≤ bdN b bf := by unfold bdN; split <;> omega
    refine ⟨fun _ => ⟨b, by omega, hf.2.2.1.2⟩, fun g => ?_⟩
    by_cases s : b < bdN b bf + 15 ∨ e = 5
    · rw [(hf.2.2.2.2.2.2.1.2.1 s).2] at g
      exact absurd g (by decide)
    · exact ⟨_, hf.1.2.2.2.2.2.2.2 (by omega), len_N (by omega) hf.2.1⟩
end OF
