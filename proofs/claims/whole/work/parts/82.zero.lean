/-! behind the constructors everything is beside everything -/
section ZE
def iZ : Nat → Nat → Int32 := iC11 (iC10 (fun _ _ => 0))
def lZ : Nat → Nat → Int64 := fun _ _ => 0
theorem z_nd : ∀ i, i < 4 → ((iZ (4 + 16 * i) 9 = 0 ∧ iZ 297 (256 * i + 1) = 0) ∧ (iZ (4 + 16 * i) 10 = 0 ∧ iZ 297 (256 * i + 4) = 0) ∧ (iZ (4 + 16 * i) 11 = 0 ∧ iZ 297 (256 * i + 5) = 0) ∧ (iZ (4 + 16 * i) 6 = 0 ∧ iZ 297 (256 * i + 16) = 0) ∧ (iZ (4 + 16 * i) 7 = 0 ∧ iZ 297 (256 * i + 17) = 0) ∧ iZ (4 + 16 * i) 14 = 0 ∧ iZ (4 + 16 * i) 15 = 0) := by decide +kernel
theorem z_np : ∀ i, i < 4 → (iZ (4 + 16 * i) 8 = 3 ∧ iZ 297 (256 * i) = 3 ∧ iZ (4 + 16 * i) 12 = 0 ∧ iZ 297 (256 * i + 2) = 0 ∧ iZ (4 + 16 * i) 17 = (-1)) := by decide +kernel
theorem z_tr : ∀ i, i < 4 → ((iZ 297 (256 * i + 11) = 0 ∧ iZ (4 + 16 * i + 1) 1 = (-5)) ∧ (iZ (4 + 16 * i + 1) 2 = 0 ∧ iZ 297 (256 * i + 12) = 0) ∧ (iZ (4 + 16 * i + 1) 3 = 0 ∧ iZ 297 (256 * i + 13) = 0) ∧ (iZ (4 + 16 * i + 1) 5 = 0 ∧ iZ 297 (256 * i + 15) = 0) ∧ iZ (4 + 16 * i + 1) 4 = 0 ∧ iZ 297 (256 * i + 14) = 0) := by decide +kernel
theorem z_er : ∀ i, i < 4 → ∀ kd, kd < 6 → iZ (4 + 16 * i + 2) kd = 0 ∧ (kd = 0 ∨ iZ 297 (256 * i + kd + 5) = 0) := by decide +kernel
theorem z_fl : ∀ i, i < 4 → (iZ (4 + 16 * i + 3) 3 = 0 ∧ iZ 297 (256 * i + 23) = 0) ∧ (iZ (4 + 16 * i + 7) 3 = 0 ∧ iZ 297 (256 * i + 24) = 0) ∧ (iZ (4 + 16 * i + 11) 3 = 0 ∧ iZ 297 (256 * i + 25) = 0) := by decide +kernel
theorem z_wt : ∀ i, i < 4 → ∀ j, j < 4 → iZ 297 (256 * i + 5 * j + 32) = 0 ∧ iZ 297 (256 * i + 5 * j + 34) = 0 := by decide +kernel
theorem z_lv : ∀ j, j < 256 → iZ 71 j = iZ 297 (j + 1050) := by decide +kernel
theorem z_li : iZ 2 0 = nI 128 ∧ iZ 297 1025 = nI 128 ∧ iZ 2 1 = nI 256 ∧ iZ 297 1026 = nI 256 ∧ iZ 2 2 = nI 4 ∧ iZ 297 1027 = nI 4 ∧ iZ 1 4 = 0 ∧ iZ 297 1024 = 0 ∧ iZ 68 2 = 0 ∧ iZ 297 1028 = 0 := by decide +kernel
theorem z_sl : ∀ s, s < 2 → (iZ 286 s = 0 ∧ iZ 300 s = 0 ∧ iZ (144 + 71 * s + 67) 2 = 0) ∧ ∀ i, i < 4 → iZ (144 + 71 * s + 3 + 16 * i + 3) 3 = 0 ∧ iZ (144 + 71 * s + 3 + 16 * i + 7) 3 = 0 ∧ iZ (144 + 71 * s + 3 + 16 * i + 11) 3 = 0 ∧ iZ (144 + 71 * s + 3 + 16 * i) 9 = 0 ∧ iZ (144 + 71 * s + 3 + 16 * i) 14 = 0 ∧ iZ (144 + 71 * s + 3 + 16 * i) 15 = 0 := by decide +kernel
theorem z_mt : iZ 288 4 = 0 ∧ iZ 296 7 = 0 ∧ iZ 293 2 = 0 ∧ iZ 296 5 = 0 := by decide +kernel
theorem NR0 {i : Nat} (hi : i < 4) : NR 0 (4 + 16 * i) i iZ lZ iZ := by
  obtain ⟨⟨n1, n2⟩, ⟨n3, n4⟩, ⟨n5, n6⟩, ⟨n7, n8⟩, ⟨n9, n10⟩, n11, n12⟩ := z_nd i hi
  obtain ⟨p1, p2, p3, p4, p5⟩ := z_np i hi
  obtain ⟨⟨t1, t2⟩, ⟨t3, t4⟩, ⟨t5, t6⟩, ⟨t7, t8⟩, t9, t10⟩ := z_tr i hi
  obtain ⟨⟨f1, f2⟩, ⟨f3, f4⟩, ⟨f5, f6⟩⟩ := z_fl i hi
  have q3 : ¬ (3 : Int32) = 1 ∧ ¬ (3 : Int32) = 7 ∧ ¬ (3 : Int32) = 5 ∧ ¬ (3 : Int32) = 4 ∧ ¬ (3 : Int32) = 6 ∧ ¬ (3 : Int32) = 9 ∧ ¬ (3 : Int32) = 8 := by decide
  refine ⟨⟨⟨n1.trans n2.symm, Or.inl n2⟩, ⟨n3.trans n4.symm, 0, by omega, n4⟩, ⟨n5.trans n6.symm, 0, by omega, n6⟩, ⟨n7.trans n8.symm, n9.trans n10.symm⟩, ⟨Or.inl n11, Or.inl n12⟩, ⟨fun kd g1 g2 => ?_, ⟨0, by omega, t1, t2⟩, t3.trans t4.symm, t5.trans t6.symm, t7.trans t8.symm, t9.trans t10.symm, 0, by omega, t10⟩, ⟨0, by omega, f1, f2, fun j hj => absurd hj (by omega), fun j hj => absurd hj (by omega), fun j hj => ⟨0, by omega, (z_wt i hi j hj).1⟩⟩, ⟨0, by omega, f3, f4, fun j hj => absurd hj (by omega)⟩, ⟨0, by omega, f5, f6, List.Perm.refl _, fun j hj => absurd hj (by omega), fun j j' hj => absurd hj (by omega)⟩⟩, p1.trans p2.symm, p3.trans p4.symm, ⟨0, p4, by omega, fun _ => by omega, fun _ => by omega, fun _ => by omega⟩, fun g => ?_, fun g => ?_, fun g => ?_, Or.inl ⟨p5, fun j hj => (z_wt i hi j hj).2⟩, fun g => ?_⟩
  · obtain ⟨e1, e2⟩ := z_er i hi kd (by omega)
    exact e1.trans (e2.resolve_left (by omega)).symm
  · rw [p2] at g; exact absurd g q3.1
  · rw [p2] at g; exact absurd g q3.2.1
  · rw [p2] at g; exact absurd g q3.2.2.1
  · rw [p2] at g; exact absurd g q3.2.2.2.1
theorem REL0 : REL 0 iZ lZ iZ := by
  obtain ⟨l1, l2, l3, l4, l5, l6, l7, l8, l9, l10⟩ := z_li
  obtain ⟨m1, m2, m3, m4⟩ := z_mt
  refine ⟨⟨0, by omega, l7, l8, ⟨128, 256, 4, by omega, by omega, by omega, by omega, by omega, by omega, l1, l2, l3, l4, l5, l6⟩, fun i hi => NR0 hi, ⟨0, by omega, l9, l10, fun j hj => absurd hj (by omega)⟩, z_lv⟩, fun s hs => ?_, ⟨0, by omega, m1, m2, fun j hj => absurd hj (by omega)⟩, ⟨0, by omega, m3, m4, fun j hj => absurd hj (by omega)⟩⟩
  obtain ⟨⟨s1, s2, s3⟩, s4⟩ := z_sl s hs
  refine ⟨s1.trans s2.symm, ⟨fun i hi => ?_, 0, by omega, s3⟩, fun i hi => ?_, fun g => absurd s1 g⟩
  · obtain ⟨a1, a2, a3, -⟩ := s4 i hi
    exact ⟨⟨0, by omega, a1⟩, ⟨0, by omega, a2⟩, 0, by omega, a3⟩
  · obtain ⟨-, -, -, a4, a5, a6⟩ := s4 i hi
    exact ⟨Or.inl a4, Or.inl a5, Or.inl a6⟩
end ZE
