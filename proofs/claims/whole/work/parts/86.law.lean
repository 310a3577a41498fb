section LAW
variable {g : GlT} {K : CtT} {n : Nat} {xs : Nat → Int32} {kc ks pc : Nat} {lv : List (Nat × Value)} {st : List Value} {M : MemT}
theorem L_tsOut (hC : cL g K n xs) {dflt lo hi : Int} {offs : Array Int} {len : Nat} {x : Int32} {tgt : Nat} (hd : decode code pc = .ok (.tableswitch dflt lo hi offs, len)) (hx : ∀ i : Int, lo ≤ i → i ≤ hi → ¬ x = Int32.ofInt i) (ht : (pc : Int) + dflt = (tgt : Int)) (k : VL g K kc ks tgt lv st M) : VL g K kc ks pc lv (.int x :: st) M := by
  intro H locs ls hP hS hl
  exact lv_tableOut hC.1.1 hC.1.2.1 hd (ts_out hx) ht (k H locs ls hP hS hl)
theorem gt_iff {i : Nat} (hn : n ≤ 3072) (hi : i ≤ 4000) : (nI n - 6 < nI i) ↔ n < i + 6 := by
  have e : (nI n - 6).toInt = (n : Int) - 6 := by
    rcases Nat.lt_or_ge n 6 with q | q
    · exact (by decide : ∀ n, n < 6 → (nI n - 6).toInt = (n : Int) - 6) n q
    · rw [show nI n - 6 = nI (n - 6) from nI_sub (b := 6) q, nI_toInt (by omega)]
      omega
  rw [Int32.lt_iff_toInt_lt, e, nI_toInt (by omega)]
  omega
theorem law_out (hC : cL g K n xs) (hn : n ≤ 3072) (hk : kc ≤ 600000) (hs : ks ≤ 7302250) {i : Nat} (hi : i ≤ 4000) (ho : n < i + 6) : VL g K kc ks 18 (lvL g K i) [] M := by
  refine L_iload_n hC (pc1 := 19) 3 dL_18 rfl rfl ?_
  refine L_aload_n hC (pc1 := 20) 0 dL_19 rfl rfl ?_
  refine L_slen hC (pc1 := 21) dL_20 rfl ?_
  refine L_bipush hC (pc1 := 23) dL_21 vb_6 rfl ?_
  refine L_isub hC (pc1 := 24) dL_23 rfl ?_
  refine L_icmp_gt hC (tgt := 1655) (pc1 := 27) dL_24 (by decide) rfl (fun _ => ?_) (fun q => absurd ((gt_iff hn hi).mpr ho) q)
  refine L_iconst hC (pc1 := 1656) dL_1655 vc_1 rfl ?_
  exact L_ret hC hk hs dL_1656
theorem law_loop (hC : cL g K n xs) (hn : n ≤ 3072) (hk : kc ≤ 600000) (hs : ks ≤ 7302250) : ∀ (m i b : Nat) (I : Nat → Nat → Int32) (L : Nat → Nat → Int64), n < i + 6 * m → i ≤ n + 6 → b + 1000 * m < 2 ^ 26 → REL b I L I → VL g K kc ks 18 (lvL g K i) [] (I, L, R0, 305) := by
  intro m
  induction m with
  | zero => intro i b I L h1 h2 h3 h; exact law_out hC hn hk hs (by omega) (by omega)
  | succ m ih =>
    intro i b I L h1 h2 h3 h
    by_cases ho : n < i + 6
    · exact law_out hC hn hk hs (by omega) ho
    · have cont : ∀ I' L', REL (b + 1000) I' L' I' → VL g K kc ks 1649 (lvL g K i) [] (I', L', R0, 305) := fun I' L' h' => by
        refine L_iinc hC (pc1 := 1652) 3 (v := nI (i + 6)) dL_1649 rfl (nI_add i 6) (by decide) rfl rfl ?_
        refine L_goto hC (tgt := 18) dL_1652 (by decide) ?_
        exact L_lv (lvsub_p [1, 2, 3, 0] rfl) (ih (i + 6) (b + 1000) I' L' (by omega) (by omega) (by omega) h')
      refine L_iload_n hC (pc1 := 19) 3 dL_18 rfl rfl ?_
      refine L_aload_n hC (pc1 := 20) 0 dL_19 rfl rfl ?_
      refine L_slen hC (pc1 := 21) dL_20 rfl ?_
      refine L_bipush hC (pc1 := 23) dL_21 vb_6 rfl ?_
      refine L_isub hC (pc1 := 24) dL_23 rfl ?_
      refine L_icmp_gt hC (tgt := 1655) (pc1 := 27) dL_24 (by decide) rfl (fun q => absurd ((gt_iff hn (by omega)).mp q) ho) (fun _ => ?_)
      refine L_aload_n hC (pc1 := 28) 0 dL_27 rfl rfl ?_
      refine L_iload_n hC (pc1 := 29) 3 dL_28 rfl rfl ?_
      refine L_sld hC (pc1 := 30) i rfl (by omega) hn dL_29 rfl ?_
      refine L_bipush hC (pc1 := 32) dL_30 vb_63 rfl ?_
      refine L_iand hC (pc1 := 33) dL_32 rfl ?_
      by_cases e0 : xs i &&& 63 = 0
      · exact L_tsIn hC (tgt := 240) (off := 207) 0 e0 dL_33 (by decide) (by decide) rfl (by decide) (cs_0 hC hn (by omega) (by omega) hk hs h cont)
      by_cases e1 : xs i &&& 63 = 1
      · exact L_tsIn hC (tgt := 283) (off := 250) 1 e1 dL_33 (by decide) (by decide) rfl (by decide) (cs_1 hC hn (by omega) (by omega) hk hs h cont)
      by_cases e2 : xs i &&& 63 = 2
      · exact L_tsIn hC (tgt := 326) (off := 293) 2 e2 dL_33 (by decide) (by decide) rfl (by decide) (cs_2 hC hn (by omega) (by omega) hk hs h cont)
      by_cases e3 : xs i &&& 63 = 3
      · exact L_tsIn hC (tgt := 379) (off := 346) 3 e3 dL_33 (by decide) (by decide) rfl (by decide) (cs_3 hC hn (by omega) (by omega) hk hs h cont)
      by_cases e4 : xs i &&& 63 = 4
      · exact L_tsIn hC (tgt := 412) (off := 379) 4 e4 dL_33 (by decide) (by decide) rfl (by decide) (cs_4 hC hn (by omega) (by omega) hk hs h cont)
      by_cases e5 : xs i &&& 63 = 5
      · exact L_tsIn hC (tgt := 435) (off := 402) 5 e5 dL_33 (by decide) (by decide) rfl (by decide) (cs_5 hC hn (by omega) (by omega) hk hs h cont)
      by_cases e6 : xs i &&& 63 = 6
      · exact L_tsIn hC (tgt := 458) (off := 425) 6 e6 dL_33 (by decide) (by decide) rfl (by decide) (cs_6 hC hn (by omega) (by omega) hk hs h cont)
      by_cases e7 : xs i &&& 63 = 7
      · exact L_tsIn hC (tgt := 537) (off := 504) 7 e7 dL_33 (by decide) (by decide) rfl (by decide) (cs_7 hC hn (by omega) (by omega) hk hs h cont)
      by_cases e8 : xs i &&& 63 = 8
      · exact L_tsIn hC (tgt := 570) (off := 537) 8 e8 dL_33 (by decide) (by decide) rfl (by decide) (cs_8 hC hn (by omega) (by omega) hk hs h cont)
      by_cases e9 : xs i &&& 63 = 9
      · exact L_tsIn hC (tgt := 603) (off := 570) 9 e9 dL_33 (by decide) (by decide) rfl (by decide) (cs_9 hC hn (by omega) (by omega) hk hs h cont)
      by_cases e10 : xs i &&& 63 = 10
      · exact L_tsIn hC (tgt := 626) (off := 593) 10 e10 dL_33 (by decide) (by decide) rfl (by decide) (cs_10 hC hn (by omega) (by omega) hk hs h cont)
      by_cases e11 : xs i &&& 63 = 11
      · exact L_tsIn hC (tgt := 639) (off := 606) 11 e11 dL_33 (by decide) (by decide) rfl (by decide) (cs_11 hC hn (by omega) (by omega) hk hs h cont)
      by_cases e12 : xs i &&& 63 = 12
      · exact L_tsIn hC (tgt := 662) (off := 629) 12 e12 dL_33 (by decide) (by decide) rfl (by decide) (cs_12 hC hn (by omega) (by omega) hk hs h cont)
      by_cases e13 : xs i &&& 63 = 13
      · exact L_tsIn hC (tgt := 685) (off := 652) 13 e13 dL_33 (by decide) (by decide) rfl (by decide) (cs_13 hC hn (by omega) (by omega) hk hs h cont)
      by_cases e14 : xs i &&& 63 = 14
      · exact L_tsIn hC (tgt := 708) (off := 675) 14 e14 dL_33 (by decide) (by decide) rfl (by decide) (cs_14 hC hn (by omega) (by omega) hk hs h cont)
      by_cases e15 : xs i &&& 63 = 15
      · exact L_tsIn hC (tgt := 731) (off := 698) 15 e15 dL_33 (by decide) (by decide) rfl (by decide) (cs_15 hC hn (by omega) (by omega) hk hs h cont)
      by_cases e16 : xs i &&& 63 = 16
      · exact L_tsIn hC (tgt := 754) (off := 721) 16 e16 dL_33 (by decide) (by decide) rfl (by decide) (cs_16 hC hn (by omega) (by omega) hk hs h cont)
      by_cases e17 : xs i &&& 63 = 17
      · exact L_tsIn hC (tgt := 787) (off := 754) 17 e17 dL_33 (by decide) (by decide) rfl (by decide) (cs_17 hC hn (by omega) (by omega) hk hs h cont)
      by_cases e18 : xs i &&& 63 = 18
      · exact L_tsIn hC (tgt := 810) (off := 777) 18 e18 dL_33 (by decide) (by decide) rfl (by decide) (cs_18 hC hn (by omega) (by omega) hk hs h cont)
      by_cases e19 : xs i &&& 63 = 19
      · exact L_tsIn hC (tgt := 833) (off := 800) 19 e19 dL_33 (by decide) (by decide) rfl (by decide) (cs_19 hC hn (by omega) (by omega) hk hs h cont)
      by_cases e20 : xs i &&& 63 = 20
      · exact L_tsIn hC (tgt := 856) (off := 823) 20 e20 dL_33 (by decide) (by decide) rfl (by decide) (cs_20 hC hn (by omega) (by omega) hk hs h cont)
      by_cases e21 : xs i &&& 63 = 21
      · exact L_tsIn hC (tgt := 879) (off := 846) 21 e21 dL_33 (by decide) (by decide) rfl (by decide) (cs_21 hC hn (by omega) (by omega) hk hs h cont)
      by_cases e22 : xs i &&& 63 = 22
      · exact L_tsIn hC (tgt := 902) (off := 869) 22 e22 dL_33 (by decide) (by decide) rfl (by decide) (cs_22 hC hn (by omega) (by omega) hk hs h cont)
      by_cases e23 : xs i &&& 63 = 23
      · exact L_tsIn hC (tgt := 925) (off := 892) 23 e23 dL_33 (by decide) (by decide) rfl (by decide) (cs_23 hC hn (by omega) (by omega) hk hs h cont)
      by_cases e24 : xs i &&& 63 = 24
      · exact L_tsIn hC (tgt := 958) (off := 925) 24 e24 dL_33 (by decide) (by decide) rfl (by decide) (cs_24 hC hn (by omega) (by omega) hk hs h cont)
      by_cases e25 : xs i &&& 63 = 25
      · exact L_tsIn hC (tgt := 981) (off := 948) 25 e25 dL_33 (by decide) (by decide) rfl (by decide) (cs_25 hC hn (by omega) (by omega) hk hs h cont)
      by_cases e26 : xs i &&& 63 = 26
      · exact L_tsIn hC (tgt := 1014) (off := 981) 26 e26 dL_33 (by decide) (by decide) rfl (by decide) (cs_26 hC hn (by omega) (by omega) hk hs h cont)
      by_cases e27 : xs i &&& 63 = 27
      · exact L_tsIn hC (tgt := 1047) (off := 1014) 27 e27 dL_33 (by decide) (by decide) rfl (by decide) (cs_27 hC hn (by omega) (by omega) hk hs h cont)
      by_cases e28 : xs i &&& 63 = 28
      · exact L_tsIn hC (tgt := 1080) (off := 1047) 28 e28 dL_33 (by decide) (by decide) rfl (by decide) (cs_28 hC hn (by omega) (by omega) hk hs h cont)
      by_cases e29 : xs i &&& 63 = 29
      · exact L_tsIn hC (tgt := 1103) (off := 1070) 29 e29 dL_33 (by decide) (by decide) rfl (by decide) (cs_29 hC hn (by omega) (by omega) hk hs h cont)
      by_cases e30 : xs i &&& 63 = 30
      · exact L_tsIn hC (tgt := 1116) (off := 1083) 30 e30 dL_33 (by decide) (by decide) rfl (by decide) (cs_30 hC hn (by omega) (by omega) hk hs h cont)
      by_cases e31 : xs i &&& 63 = 31
      · exact L_tsIn hC (tgt := 1139) (off := 1106) 31 e31 dL_33 (by decide) (by decide) rfl (by decide) (cs_31 hC hn (by omega) (by omega) hk hs h cont)
      by_cases e32 : xs i &&& 63 = 32
      · exact L_tsIn hC (tgt := 1152) (off := 1119) 32 e32 dL_33 (by decide) (by decide) rfl (by decide) (cs_32 hC hn (by omega) (by omega) hk hs h cont)
      by_cases e33 : xs i &&& 63 = 33
      · exact L_tsIn hC (tgt := 1175) (off := 1142) 33 e33 dL_33 (by decide) (by decide) rfl (by decide) (cs_33 hC hn (by omega) (by omega) hk hs h cont)
      by_cases e34 : xs i &&& 63 = 34
      · exact L_tsIn hC (tgt := 1244) (off := 1211) 34 e34 dL_33 (by decide) (by decide) rfl (by decide) (cs_34 hC hn (by omega) (by omega) hk hs h cont)
      by_cases e35 : xs i &&& 63 = 35
      · exact L_tsIn hC (tgt := 1313) (off := 1280) 35 e35 dL_33 (by decide) (by decide) rfl (by decide) (cs_35 hC hn (by omega) (by omega) hk hs h cont)
      by_cases e36 : xs i &&& 63 = 36
      · exact L_tsIn hC (tgt := 1392) (off := 1359) 36 e36 dL_33 (by decide) (by decide) rfl (by decide) (cs_36 hC hn (by omega) (by omega) hk hs h cont)
      by_cases e37 : xs i &&& 63 = 37
      · exact L_tsIn hC (tgt := 1415) (off := 1382) 37 e37 dL_33 (by decide) (by decide) rfl (by decide) (cs_37 hC hn (by omega) (by omega) hk hs h cont)
      by_cases e38 : xs i &&& 63 = 38
      · exact L_tsIn hC (tgt := 1468) (off := 1435) 38 e38 dL_33 (by decide) (by decide) rfl (by decide) (cs_38 hC hn (by omega) (by omega) hk hs h cont)
      by_cases e39 : xs i &&& 63 = 39
      · exact L_tsIn hC (tgt := 1491) (off := 1458) 39 e39 dL_33 (by decide) (by decide) rfl (by decide) (cs_39 hC hn (by omega) (by omega) hk hs h cont)
      by_cases e40 : xs i &&& 63 = 40
      · exact L_tsIn hC (tgt := 1514) (off := 1481) 40 e40 dL_33 (by decide) (by decide) rfl (by decide) (cs_40 hC hn (by omega) (by omega) hk hs h cont)
      by_cases e41 : xs i &&& 63 = 41
      · exact L_tsIn hC (tgt := 1527) (off := 1494) 41 e41 dL_33 (by decide) (by decide) rfl (by decide) (cs_41 hC hn (by omega) (by omega) hk hs h cont)
      by_cases e42 : xs i &&& 63 = 42
      · exact L_tsIn hC (tgt := 1550) (off := 1517) 42 e42 dL_33 (by decide) (by decide) rfl (by decide) (cs_42 hC hn (by omega) (by omega) hk hs h cont)
      by_cases e43 : xs i &&& 63 = 43
      · exact L_tsIn hC (tgt := 1563) (off := 1530) 43 e43 dL_33 (by decide) (by decide) rfl (by decide) (cs_43 hC hn (by omega) (by omega) hk hs h cont)
      by_cases e44 : xs i &&& 63 = 44
      · exact L_tsIn hC (tgt := 1576) (off := 1543) 44 e44 dL_33 (by decide) (by decide) rfl (by decide) (cs_44 hC hn (by omega) (by omega) hk hs h cont)
      by_cases e45 : xs i &&& 63 = 45
      · exact L_tsIn hC (tgt := 1589) (off := 1556) 45 e45 dL_33 (by decide) (by decide) rfl (by decide) (cs_45 hC hn (by omega) (by omega) hk hs h cont)
      by_cases e46 : xs i &&& 63 = 46
      · exact L_tsIn hC (tgt := 1612) (off := 1579) 46 e46 dL_33 (by decide) (by decide) rfl (by decide) (cs_46 hC hn (by omega) (by omega) hk hs h cont)
      by_cases e47 : xs i &&& 63 = 47
      · exact L_tsIn hC (tgt := 1635) (off := 1602) 47 e47 dL_33 (by decide) (by decide) rfl (by decide) (cs_47 hC hn (by omega) (by omega) hk hs h cont)
      refine L_tsOut hC (tgt := 1649) dL_33 (fun j j1 j2 => ?_) (by decide) (cont I L (h.le (by omega)))
      obtain ⟨q, rfl⟩ : ∃ q : Nat, j = (q : Int) := ⟨j.toNat, by omega⟩
      have hq : q < 48 := by omega
      match q, hq with
      | 0, _ => exact e0
      | 1, _ => exact e1
      | 2, _ => exact e2
      | 3, _ => exact e3
      | 4, _ => exact e4
      | 5, _ => exact e5
      | 6, _ => exact e6
      | 7, _ => exact e7
      | 8, _ => exact e8
      | 9, _ => exact e9
      | 10, _ => exact e10
      | 11, _ => exact e11
      | 12, _ => exact e12
      | 13, _ => exact e13
      | 14, _ => exact e14
      | 15, _ => exact e15
      | 16, _ => exact e16
      | 17, _ => exact e17
      | 18, _ => exact e18
      | 19, _ => exact e19
      | 20, _ => exact e20
      | 21, _ => exact e21
      | 22, _ => exact e22
      | 23, _ => exact e23
      | 24, _ => exact e24
      | 25, _ => exact e25
      | 26, _ => exact e26
      | 27, _ => exact e27
      | 28, _ => exact e28
      | 29, _ => exact e29
      | 30, _ => exact e30
      | 31, _ => exact e31
      | 32, _ => exact e32
      | 33, _ => exact e33
      | 34, _ => exact e34
      | 35, _ => exact e35
      | 36, _ => exact e36
      | 37, _ => exact e37
      | 38, _ => exact e38
      | 39, _ => exact e39
      | 40, _ => exact e40
      | 41, _ => exact e41
      | 42, _ => exact e42
      | 43, _ => exact e43
      | 44, _ => exact e44
      | 45, _ => exact e45
      | 46, _ => exact e46
      | 47, _ => exact e47
      | z + 48, hz => omega
end LAW
