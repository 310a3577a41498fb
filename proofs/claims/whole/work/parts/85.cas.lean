section CAS
section FA
variable {b : Nat} {C J : Nat → Nat → Int32} {D : Nat → Nat → Int64}
theorem REL.cv (h : REL b C D J) : bV 1 C := by obtain ⟨t, -, h2⟩ := h.1; exact h2.bV
theorem REL.cb (h : REL b C D J) : ∀ i, i < 4 → nB (1 + 3 + 16 * i) C := by obtain ⟨t, -, h2⟩ := h.1; exact h2.nB
theorem REL.cm (h : REL b C D J) : ∃ m, m ≤ 8 ∧ C 288 4 = nI m := by obtain ⟨m, m1, m2, -⟩ := h.2.2.1; exact ⟨m, m1, m2⟩
theorem REL.ct (h : REL b C D J) : ∃ t, t ≤ 120 ∧ C 293 2 = nI t := by obtain ⟨m, m1, m2, -⟩ := h.2.2.2; exact ⟨m, m1, m2⟩
theorem REL.cs (h : REL b C D J) : ∀ i, i < 2 → bV (144 + 71 * i) C := fun i hi => (h.2.1 i hi).2.1
theorem REL.csb (h : REL b C D J) : ∀ j, j < 2 → ∀ i, i < 4 → nB (144 + 71 * j + 3 + 16 * i) C := fun j hj => (h.2.1 j hj).2.2.1
theorem REL.rb (h : REL b C D J) : rB b J := by obtain ⟨t, h1, h2⟩ := h.1; exact ⟨t, C, D, h1, h2⟩
theorem REL.rv (h : REL b C D J) : rV J := h.rb.V
theorem REL.rm (h : REL b C D J) : ∃ m, m ≤ 8 ∧ J 296 7 = nI m ∧ mG m J := by obtain ⟨m, m1, m2, m3, m4⟩ := h.2.2.1; exact ⟨m, m1, m3, mE.g m4⟩
theorem REL.rt (h : REL b C D J) : ∃ t, t ≤ 120 ∧ J 296 5 = nI t := by obtain ⟨m, m1, m2, m3, -⟩ := h.2.2.2; exact ⟨m, m1, m3⟩
theorem REL.rT (h : REL b C D J) (hb : b < 2 ^ 26) : ∃ t, t < 2 ^ 30 ∧ J 297 1024 = nI t := by obtain ⟨t, h1, h2⟩ := h.1; exact ⟨t, by omega, h2.2.1⟩
theorem REL.rd (h : REL b C D J) : ∃ d, d ≤ 8 ∧ J 297 1028 = nI d := h.rb.D
end FA
variable {g : GlT} {K : CtT} {n : Nat} {xs : Nat → Int32} {kc ks pc pc1 : Nat} {lv : List (Nat × Value)} {st stk : List Value} {I I1 : Nat → Nat → Int32} {L L1 : Nat → Nat → Int64}
abbrev lvL (g : GlT) (K : CtT) (i : Nat) : List (Nat × Value) := [(0, .ref K.2.2.2.2.2.2.2), (1, .ref (xA g 0)), (2, .ref (xA g 296)), (3, .int (nI i))]
theorem L_b (hC : cL g K n xs) {x : Int32} {o1 o2 : Int} {p3 tgt p1 p2 : Nat} {M : MemT} (hd1 : decode code pc = .ok (.ifCond .eq o1, 3)) (ht1 : (pc : Int) + o1 = (p3 : Int)) (hp1 : pc + 3 = p1) (hd2 : decode code p1 = .ok (.iconst 1, 1)) (hp2 : p1 + 1 = p2) (hd3 : decode code p2 = .ok (.goto o2, 3)) (ht3 : (p2 : Int) + o2 = (tgt : Int)) (hd4 : decode code p3 = .ok (.iconst 0, 1)) (hp4 : p3 + 1 = tgt) (kk : VL g K kc ks tgt lv (.int (bI (if x = 0 then false else true)) :: st) M) : VL g K kc ks pc lv (.int x :: st) M := by
  refine L_if_eq hC hd1 ht1 hp1 (fun q => ?_) (fun q => ?_)
  · refine L_iconst hC hd4 vc_0 hp4 ?_
    rw [if_pos q] at kk
    exact kk
  · refine L_iconst hC hd2 vc_1 hp2 (L_goto hC hd3 ht3 ?_)
    rw [if_neg q] at kk
    exact kk
theorem L_vi (hC : cL g K n xs) {Y : XT} {As : List Value} {k ci idx m : Nat} {x : Int32} (hc : Call g Y (.ref (xA g k) :: As) (I, L, R0, 305) (Qi x I1 L1)) (hl0 : lay k = (0, ci)) (hk : k < 305) (hm : mV Y.1 m ci) (hlk : Cond.methodLink R_law idx Y.1.1 ∈ xT) (hn : As.length = m) (hz : Y.2.2 = (0, 0)) (hR : rL Y kc ks) (hsum : (st.map fun v => v.category).sum ≤ 8) (hst : stk = As.reverse ++ .ref (xA g k) :: st) (hd : decode code pc = .ok (.invokevirtual idx, 3)) (hp : pc + 3 = pc1) (kk : VL g K kc ks pc1 lv (.int x :: st) (I1, L1, R0, 305)) : VL g K kc ks pc lv stk (I, L, R0, 305) := by
  refine L_callV hC hc hl0 hk hm hlk hn hR hsum hst hd hp fun r M' h => ?_
  obtain ⟨rfl, rfl⟩ := h
  rw [hz]
  exact kk
theorem L_vl (hC : cL g K n xs) {Y : XT} {As : List Value} {k ci idx m : Nat} {x : Int64} (hc : Call g Y (.ref (xA g k) :: As) (I, L, R0, 305) (Ql x I1 L1)) (hl0 : lay k = (0, ci)) (hk : k < 305) (hm : mV Y.1 m ci) (hlk : Cond.methodLink R_law idx Y.1.1 ∈ xT) (hn : As.length = m) (hz : Y.2.2 = (0, 0)) (hR : rL Y kc ks) (hsum : (st.map fun v => v.category).sum ≤ 8) (hst : stk = As.reverse ++ .ref (xA g k) :: st) (hd : decode code pc = .ok (.invokevirtual idx, 3)) (hp : pc + 3 = pc1) (kk : VL g K kc ks pc1 lv (.long x :: st) (I1, L1, R0, 305)) : VL g K kc ks pc lv stk (I, L, R0, 305) := by
  refine L_callV hC hc hl0 hk hm hlk hn hR hsum hst hd hp fun r M' h => ?_
  obtain ⟨rfl, rfl⟩ := h
  rw [hz]
  exact kk
theorem lg_cmp_refl (x : Int64) : lg_cmp x x = 0 := by simp [lg_cmp]
theorem settle_J {b : Nat} (hb : b < 2 ^ 26) (h : REL b I L I) : r10_settle I L = r11_settle (i10_settle I L) (m10_settle I L) ∧ REL b I L (i10_settle I L) ∧ REL (b + 1000) (i11_settle (i10_settle I L) (m10_settle I L)) (m10_settle I L) (i11_settle (i10_settle I L) (m10_settle I L)) := by
  have y : ∀ J, REL b I L J → r10_settle I L = r11_settle J (m10_settle I L) ∧ OK2 b I J (i10_settle I L) (m10_settle I L) (i11_settle J (m10_settle I L)) := fun J hJ => Y_settle hb hJ
  generalize r10_settle I L = r at y ⊢
  generalize i10_settle I L = A at y ⊢
  generalize m10_settle I L = B at y ⊢
  have h1 : REL b I L A := h.ofJ (y I h).2.2.1
  exact ⟨(y A h1).1, h1, (y A h1).2.1.ofC (y A h1).2.2.2⟩
theorem cont_J {b i : Nat} {A : Nat → Nat → Int32} {B : Nat → Nat → Int64} (cont : ∀ I' L', REL (b + 1000) I' L' I' → VL g K kc ks 1649 (lvL g K i) [] (I', L', R0, 305)) (hN : REL (b + 1000) A B A) {x y : Int32} (e : x = y) (hC : cL g K n xs) {off : Int} (hd : decode code pc = .ok (.if_icmp .eq off, 3)) (ht : (pc : Int) + off = (1649 : Int)) : VL g K kc ks pc (lvL g K i) (.int y :: .int x :: []) (A, B, R0, 305) := L_icmp_eq hC (tgt := 1649) hd ht rfl (fun _ => cont _ _ hN) (fun q => absurd e q)
theorem cs_0 (hC : cL g K n xs) (hn : n ≤ 3072) {i b : Nat} (hi : i + 6 ≤ n) (hb : b < 2 ^ 26) (hk : kc ≤ 600000) (hs : ks ≤ 7302250) (h : REL b I L I) (cont : ∀ I' L', REL (b + 1000) I' L' I' → VL g K kc ks 1649 (lvL g K i) [] (I', L', R0, 305)) : VL g K kc ks 240 (lvL g K i) [] (I, L, R0, 305) := by
  refine L_aload_n hC (pc1 := 241) 1 dL_240 rfl rfl ?_
  refine L_aload_n hC (pc1 := 242) 0 dL_241 rfl rfl ?_
  refine L_iload_n hC (pc1 := 243) 3 dL_242 rfl rfl ?_
  refine L_iconst hC (pc1 := 244) dL_243 vc_1 rfl ?_
  refine L_iadd hC (pc1 := 245) dL_244 rfl ?_
  refine L_sld hC (pc1 := 246) (i + 1) (nI_add i 1) (by omega) hn dL_245 rfl ?_
  refine L_aload_n hC (pc1 := 247) 0 dL_246 rfl rfl ?_
  refine L_iload_n hC (pc1 := 248) 3 dL_247 rfl rfl ?_
  refine L_iconst hC (pc1 := 249) dL_248 vc_2 rfl ?_
  refine L_iadd hC (pc1 := 250) dL_249 rfl ?_
  refine L_sld hC (pc1 := 251) (i + 2) (nI_add i 2) (by omega) hn dL_250 rfl ?_
  refine L_aload_n hC (pc1 := 252) 0 dL_251 rfl rfl ?_
  refine L_iload_n hC (pc1 := 253) 3 dL_252 rfl rfl ?_
  refine L_iconst hC (pc1 := 254) dL_253 vc_3 rfl ?_
  refine L_iadd hC (pc1 := 255) dL_254 rfl ?_
  refine L_sld hC (pc1 := 256) (i + 3) (nI_add i 3) (by omega) hn dL_255 rfl ?_
  refine L_vi hC (pc1 := 259) (w10_setLimits g (xs (i + 1)) (xs (i + 2)) (xs (i + 3)) I L) ly0 (lt305 rfl) s10_setLimits lL_13 rfl rfl ⟨Nat.le_of_ble_eq_true rfl, Nat.le_of_ble_eq_true rfl, hk, hs⟩ (Nat.le_of_ble_eq_true rfl) rfl dL_256 rfl ?_
  obtain ⟨eR, hj, hN⟩ := OK2.join (R := fun J => r11_setLimits (xs (i + 1)) (xs (i + 2)) (xs (i + 3)) J _) (F := fun J => i11_setLimits (xs (i + 1)) (xs (i + 2)) (xs (i + 3)) J _) h (fun J hJ => Y_setLimits (a1 := xs (i + 1)) (a2 := xs (i + 2)) (a3 := xs (i + 3)) hJ)
  refine L_aload_n hC (pc1 := 260) 2 dL_259 rfl rfl ?_
  refine L_aload_n hC (pc1 := 261) 0 dL_260 rfl rfl ?_
  refine L_iload_n hC (pc1 := 262) 3 dL_261 rfl rfl ?_
  refine L_iconst hC (pc1 := 263) dL_262 vc_1 rfl ?_
  refine L_iadd hC (pc1 := 264) dL_263 rfl ?_
  refine L_sld hC (pc1 := 265) (i + 1) (nI_add i 1) (by omega) hn dL_264 rfl ?_
  refine L_aload_n hC (pc1 := 266) 0 dL_265 rfl rfl ?_
  refine L_iload_n hC (pc1 := 267) 3 dL_266 rfl rfl ?_
  refine L_iconst hC (pc1 := 268) dL_267 vc_2 rfl ?_
  refine L_iadd hC (pc1 := 269) dL_268 rfl ?_
  refine L_sld hC (pc1 := 270) (i + 2) (nI_add i 2) (by omega) hn dL_269 rfl ?_
  refine L_aload_n hC (pc1 := 271) 0 dL_270 rfl rfl ?_
  refine L_iload_n hC (pc1 := 272) 3 dL_271 rfl rfl ?_
  refine L_iconst hC (pc1 := 273) dL_272 vc_3 rfl ?_
  refine L_iadd hC (pc1 := 274) dL_273 rfl ?_
  refine L_sld hC (pc1 := 275) (i + 3) (nI_add i 3) (by omega) hn dL_274 rfl ?_
  refine L_vi hC (pc1 := 278) (w11_setLimits g (xs (i + 1)) (xs (i + 2)) (xs (i + 3)) _ _) ly296 (lt305 rfl) s11_setLimits lL_17 rfl rfl ⟨Nat.le_of_ble_eq_true rfl, Nat.le_of_ble_eq_true rfl, hk, hs⟩ (Nat.le_of_ble_eq_true rfl) rfl dL_275 rfl ?_
  exact L_icmp_eq hC (tgt := 1649) (pc1 := 281) dL_278 (by decide) rfl (fun _ => cont _ _ hN) (fun q => absurd eR q)
theorem cs_1 (hC : cL g K n xs) (hn : n ≤ 3072) {i b : Nat} (hi : i + 6 ≤ n) (hb : b < 2 ^ 26) (hk : kc ≤ 600000) (hs : ks ≤ 7302250) (h : REL b I L I) (cont : ∀ I' L', REL (b + 1000) I' L' I' → VL g K kc ks 1649 (lvL g K i) [] (I', L', R0, 305)) : VL g K kc ks 283 (lvL g K i) [] (I, L, R0, 305) := by
  refine L_aload_n hC (pc1 := 284) 1 dL_283 rfl rfl ?_
  refine L_aload_n hC (pc1 := 285) 0 dL_284 rfl rfl ?_
  refine L_iload_n hC (pc1 := 286) 3 dL_285 rfl rfl ?_
  refine L_iconst hC (pc1 := 287) dL_286 vc_1 rfl ?_
  refine L_iadd hC (pc1 := 288) dL_287 rfl ?_
  refine L_sld hC (pc1 := 289) (i + 1) (nI_add i 1) (by omega) hn dL_288 rfl ?_
  refine L_aload_n hC (pc1 := 290) 0 dL_289 rfl rfl ?_
  refine L_iload_n hC (pc1 := 291) 3 dL_290 rfl rfl ?_
  refine L_iconst hC (pc1 := 292) dL_291 vc_2 rfl ?_
  refine L_iadd hC (pc1 := 293) dL_292 rfl ?_
  refine L_sld hC (pc1 := 294) (i + 2) (nI_add i 2) (by omega) hn dL_293 rfl ?_
  refine L_aload_n hC (pc1 := 295) 0 dL_294 rfl rfl ?_
  refine L_iload_n hC (pc1 := 296) 3 dL_295 rfl rfl ?_
  refine L_iconst hC (pc1 := 297) dL_296 vc_3 rfl ?_
  refine L_iadd hC (pc1 := 298) dL_297 rfl ?_
  refine L_sld hC (pc1 := 299) (i + 3) (nI_add i 3) (by omega) hn dL_298 rfl ?_
  refine L_vi hC (pc1 := 302) (w10_setFilter g (xs (i + 1)) (xs (i + 2)) (xs (i + 3)) I L) ly0 (lt305 rfl) s10_setFilter lL_18 rfl rfl ⟨Nat.le_of_ble_eq_true rfl, Nat.le_of_ble_eq_true rfl, hk, hs⟩ (Nat.le_of_ble_eq_true rfl) rfl dL_299 rfl ?_
  obtain ⟨eR, hj, hN⟩ := OK2.join (R := fun J => r11_setFilter (xs (i + 1)) (xs (i + 2)) (xs (i + 3)) J _) (F := fun J => i11_setFilter (xs (i + 1)) (xs (i + 2)) (xs (i + 3)) J _) h (fun J hJ => Y_setFilter (nd := xs (i + 1)) (a1 := xs (i + 2)) (a2 := xs (i + 3)) hJ)
  refine L_aload_n hC (pc1 := 303) 2 dL_302 rfl rfl ?_
  refine L_aload_n hC (pc1 := 304) 0 dL_303 rfl rfl ?_
  refine L_iload_n hC (pc1 := 305) 3 dL_304 rfl rfl ?_
  refine L_iconst hC (pc1 := 306) dL_305 vc_1 rfl ?_
  refine L_iadd hC (pc1 := 307) dL_306 rfl ?_
  refine L_sld hC (pc1 := 308) (i + 1) (nI_add i 1) (by omega) hn dL_307 rfl ?_
  refine L_aload_n hC (pc1 := 309) 0 dL_308 rfl rfl ?_
  refine L_iload_n hC (pc1 := 310) 3 dL_309 rfl rfl ?_
  refine L_iconst hC (pc1 := 311) dL_310 vc_2 rfl ?_
  refine L_iadd hC (pc1 := 312) dL_311 rfl ?_
  refine L_sld hC (pc1 := 313) (i + 2) (nI_add i 2) (by omega) hn dL_312 rfl ?_
  refine L_aload_n hC (pc1 := 314) 0 dL_313 rfl rfl ?_
  refine L_iload_n hC (pc1 := 315) 3 dL_314 rfl rfl ?_
  refine L_iconst hC (pc1 := 316) dL_315 vc_3 rfl ?_
  refine L_iadd hC (pc1 := 317) dL_316 rfl ?_
  refine L_sld hC (pc1 := 318) (i + 3) (nI_add i 3) (by omega) hn dL_317 rfl ?_
  refine L_vi hC (pc1 := 321) (w11_setFilter g (xs (i + 1)) (xs (i + 2)) (xs (i + 3)) _ _) ly296 (lt305 rfl) s11_setFilter lL_21 rfl rfl ⟨Nat.le_of_ble_eq_true rfl, Nat.le_of_ble_eq_true rfl, hk, hs⟩ (Nat.le_of_ble_eq_true rfl) rfl dL_318 rfl ?_
  exact L_icmp_eq hC (tgt := 1649) (pc1 := 324) dL_321 (by decide) rfl (fun _ => cont _ _ hN) (fun q => absurd eR q)
theorem cs_2 (hC : cL g K n xs) (hn : n ≤ 3072) {i b : Nat} (hi : i + 6 ≤ n) (hb : b < 2 ^ 26) (hk : kc ≤ 600000) (hs : ks ≤ 7302250) (h : REL b I L I) (cont : ∀ I' L', REL (b + 1000) I' L' I' → VL g K kc ks 1649 (lvL g K i) [] (I', L', R0, 305)) : VL g K kc ks 326 (lvL g K i) [] (I, L, R0, 305) := by
  refine L_aload_n hC (pc1 := 327) 1 dL_326 rfl rfl ?_
  refine L_aload_n hC (pc1 := 328) 0 dL_327 rfl rfl ?_
  refine L_iload_n hC (pc1 := 329) 3 dL_328 rfl rfl ?_
  refine L_iconst hC (pc1 := 330) dL_329 vc_1 rfl ?_
  refine L_iadd hC (pc1 := 331) dL_330 rfl ?_
  refine L_sld hC (pc1 := 332) (i + 1) (nI_add i 1) (by omega) hn dL_331 rfl ?_
  refine L_aload_n hC (pc1 := 333) 0 dL_332 rfl rfl ?_
  refine L_iload_n hC (pc1 := 334) 3 dL_333 rfl rfl ?_
  refine L_iconst hC (pc1 := 335) dL_334 vc_2 rfl ?_
  refine L_iadd hC (pc1 := 336) dL_335 rfl ?_
  refine L_sld hC (pc1 := 337) (i + 2) (nI_add i 2) (by omega) hn dL_336 rfl ?_
  refine L_aload_n hC (pc1 := 338) 0 dL_337 rfl rfl ?_
  refine L_iload_n hC (pc1 := 339) 3 dL_338 rfl rfl ?_
  refine L_iconst hC (pc1 := 340) dL_339 vc_3 rfl ?_
  refine L_iadd hC (pc1 := 341) dL_340 rfl ?_
  refine L_sld hC (pc1 := 342) (i + 3) (nI_add i 3) (by omega) hn dL_341 rfl ?_
  refine L_aload_n hC (pc1 := 343) 0 dL_342 rfl rfl ?_
  refine L_iload_n hC (pc1 := 344) 3 dL_343 rfl rfl ?_
  refine L_iconst hC (pc1 := 345) dL_344 vc_4 rfl ?_
  refine L_iadd hC (pc1 := 346) dL_345 rfl ?_
  refine L_sld hC (pc1 := 347) (i + 4) (nI_add i 4) (by omega) hn dL_346 rfl ?_
  refine L_vi hC (pc1 := 350) (w10_setAnswer g (xs (i + 1)) (xs (i + 2)) (xs (i + 3)) (xs (i + 4)) I L h.cv) ly0 (lt305 rfl) s10_setAnswer lL_22 rfl rfl ⟨Nat.le_of_ble_eq_true rfl, Nat.le_of_ble_eq_true rfl, hk, hs⟩ (Nat.le_of_ble_eq_true rfl) rfl dL_347 rfl ?_
  obtain ⟨eR, hj, hN⟩ := OK2.join (R := fun J => r11_setAnswer (xs (i + 1)) (xs (i + 2)) (xs (i + 3)) (xs (i + 4)) J _) (F := fun J => i11_setAnswer (xs (i + 1)) (xs (i + 2)) (xs (i + 3)) (xs (i + 4)) J _) h (fun J hJ => Y_setAnswer (nd := xs (i + 1)) (a1 := xs (i + 2)) (a2 := xs (i + 3)) (a3 := xs (i + 4)) hJ)
  refine L_aload_n hC (pc1 := 351) 2 dL_350 rfl rfl ?_
  refine L_aload_n hC (pc1 := 352) 0 dL_351 rfl rfl ?_
  refine L_iload_n hC (pc1 := 353) 3 dL_352 rfl rfl ?_
  refine L_iconst hC (pc1 := 354) dL_353 vc_1 rfl ?_
  refine L_iadd hC (pc1 := 355) dL_354 rfl ?_
  refine L_sld hC (pc1 := 356) (i + 1) (nI_add i 1) (by omega) hn dL_355 rfl ?_
  refine L_aload_n hC (pc1 := 357) 0 dL_356 rfl rfl ?_
  refine L_iload_n hC (pc1 := 358) 3 dL_357 rfl rfl ?_
  refine L_iconst hC (pc1 := 359) dL_358 vc_2 rfl ?_
  refine L_iadd hC (pc1 := 360) dL_359 rfl ?_
  refine L_sld hC (pc1 := 361) (i + 2) (nI_add i 2) (by omega) hn dL_360 rfl ?_
  refine L_aload_n hC (pc1 := 362) 0 dL_361 rfl rfl ?_
  refine L_iload_n hC (pc1 := 363) 3 dL_362 rfl rfl ?_
  refine L_iconst hC (pc1 := 364) dL_363 vc_3 rfl ?_
  refine L_iadd hC (pc1 := 365) dL_364 rfl ?_
  refine L_sld hC (pc1 := 366) (i + 3) (nI_add i 3) (by omega) hn dL_365 rfl ?_
  refine L_aload_n hC (pc1 := 367) 0 dL_366 rfl rfl ?_
  refine L_iload_n hC (pc1 := 368) 3 dL_367 rfl rfl ?_
  refine L_iconst hC (pc1 := 369) dL_368 vc_4 rfl ?_
  refine L_iadd hC (pc1 := 370) dL_369 rfl ?_
  refine L_sld hC (pc1 := 371) (i + 4) (nI_add i 4) (by omega) hn dL_370 rfl ?_
  refine L_vi hC (pc1 := 374) (w11_setAnswer g (xs (i + 1)) (xs (i + 2)) (xs (i + 3)) (xs (i + 4)) _ _ hj.rv) ly296 (lt305 rfl) s11_setAnswer lL_26 rfl rfl ⟨Nat.le_of_ble_eq_true rfl, Nat.le_of_ble_eq_true rfl, hk, hs⟩ (Nat.le_of_ble_eq_true rfl) rfl dL_371 rfl ?_
  exact L_icmp_eq hC (tgt := 1649) (pc1 := 377) dL_374 (by decide) rfl (fun _ => cont _ _ hN) (fun q => absurd eR q)
theorem cs_3 (hC : cL g K n xs) (hn : n ≤ 3072) {i b : Nat} (hi : i + 6 ≤ n) (hb : b < 2 ^ 26) (hk : kc ≤ 600000) (hs : ks ≤ 7302250) (h : REL b I L I) (cont : ∀ I' L', REL (b + 1000) I' L' I' → VL g K kc ks 1649 (lvL g K i) [] (I', L', R0, 305)) : VL g K kc ks 379 (lvL g K i) [] (I, L, R0, 305) := by
  refine L_aload_n hC (pc1 := 380) 1 dL_379 rfl rfl ?_
  refine L_aload_n hC (pc1 := 381) 0 dL_380 rfl rfl ?_
  refine L_iload_n hC (pc1 := 382) 3 dL_381 rfl rfl ?_
  refine L_iconst hC (pc1 := 383) dL_382 vc_1 rfl ?_
  refine L_iadd hC (pc1 := 384) dL_383 rfl ?_
  refine L_sld hC (pc1 := 385) (i + 1) (nI_add i 1) (by omega) hn dL_384 rfl ?_
  refine L_aload_n hC (pc1 := 386) 0 dL_385 rfl rfl ?_
  refine L_iload_n hC (pc1 := 387) 3 dL_386 rfl rfl ?_
  refine L_iconst hC (pc1 := 388) dL_387 vc_2 rfl ?_
  refine L_iadd hC (pc1 := 389) dL_388 rfl ?_
  refine L_sld hC (pc1 := 390) (i + 2) (nI_add i 2) (by omega) hn dL_389 rfl ?_
  refine L_vi hC (pc1 := 393) (w10_removeAnswer g (xs (i + 1)) (xs (i + 2)) I L h.cv) ly0 (lt305 rfl) s10_removeAnswer lL_27 rfl rfl ⟨Nat.le_of_ble_eq_true rfl, Nat.le_of_ble_eq_true rfl, hk, hs⟩ (Nat.le_of_ble_eq_true rfl) rfl dL_390 rfl ?_
  obtain ⟨eR, hj, hN⟩ := OK2.join (R := fun J => r11_removeAnswer (xs (i + 1)) (xs (i + 2)) J _) (F := fun J => i11_removeAnswer (xs (i + 1)) (xs (i + 2)) J _) h (fun J hJ => Y_removeAnswer (nd := xs (i + 1)) (x := xs (i + 2)) hJ)
  refine L_aload_n hC (pc1 := 394) 2 dL_393 rfl rfl ?_
  refine L_aload_n hC (pc1 := 395) 0 dL_394 rfl rfl ?_
  refine L_iload_n hC (pc1 := 396) 3 dL_395 rfl rfl ?_
  refine L_iconst hC (pc1 := 397) dL_396 vc_1 rfl ?_
  refine L_iadd hC (pc1 := 398) dL_397 rfl ?_
  refine L_sld hC (pc1 := 399) (i + 1) (nI_add i 1) (by omega) hn dL_398 rfl ?_
  refine L_aload_n hC (pc1 := 400) 0 dL_399 rfl rfl ?_
  refine L_iload_n hC (pc1 := 401) 3 dL_400 rfl rfl ?_
  refine L_iconst hC (pc1 := 402) dL_401 vc_2 rfl ?_
  refine L_iadd hC (pc1 := 403) dL_402 rfl ?_
  refine L_sld hC (pc1 := 404) (i + 2) (nI_add i 2) (by omega) hn dL_403 rfl ?_
  refine L_vi hC (pc1 := 407) (w11_removeAnswer g (xs (i + 1)) (xs (i + 2)) _ _ hj.rv) ly296 (lt305 rfl) s11_removeAnswer lL_31 rfl rfl ⟨Nat.le_of_ble_eq_true rfl, Nat.le_of_ble_eq_true rfl, hk, hs⟩ (Nat.le_of_ble_eq_true rfl) rfl dL_404 rfl ?_
  exact L_icmp_eq hC (tgt := 1649) (pc1 := 410) dL_407 (by decide) rfl (fun _ => cont _ _ hN) (fun q => absurd eR q)
theorem cs_4 (hC : cL g K n xs) (hn : n ≤ 3072) {i b : Nat} (hi : i + 6 ≤ n) (hb : b < 2 ^ 26) (hk : kc ≤ 600000) (hs : ks ≤ 7302250) (h : REL b I L I) (cont : ∀ I' L', REL (b + 1000) I' L' I' → VL g K kc ks 1649 (lvL g K i) [] (I', L', R0, 305)) : VL g K kc ks 412 (lvL g K i) [] (I, L, R0, 305) := by
  refine L_aload_n hC (pc1 := 413) 1 dL_412 rfl rfl ?_
  refine L_aload_n hC (pc1 := 414) 0 dL_413 rfl rfl ?_
  refine L_iload_n hC (pc1 := 415) 3 dL_414 rfl rfl ?_
  refine L_iconst hC (pc1 := 416) dL_415 vc_1 rfl ?_
  refine L_iadd hC (pc1 := 417) dL_416 rfl ?_
  refine L_sld hC (pc1 := 418) (i + 1) (nI_add i 1) (by omega) hn dL_417 rfl ?_
  refine L_vi hC (pc1 := 421) (w10_detach g (xs (i + 1)) I L) ly0 (lt305 rfl) s10_detach lL_32 rfl rfl ⟨Nat.le_of_ble_eq_true rfl, Nat.le_of_ble_eq_true rfl, hk, hs⟩ (Nat.le_of_ble_eq_true rfl) rfl dL_418 rfl ?_
  obtain ⟨eR, hj, hN⟩ := OK2.join (R := fun J => r11_detach (xs (i + 1)) J _) (F := fun J => i11_detach (xs (i + 1)) J _) h (fun J hJ => Y_detach (nd := xs (i + 1)) hJ)
  refine L_aload_n hC (pc1 := 422) 2 dL_421 rfl rfl ?_
  refine L_aload_n hC (pc1 := 423) 0 dL_422 rfl rfl ?_
  refine L_iload_n hC (pc1 := 424) 3 dL_423 rfl rfl ?_
  refine L_iconst hC (pc1 := 425) dL_424 vc_1 rfl ?_
  refine L_iadd hC (pc1 := 426) dL_425 rfl ?_
  refine L_sld hC (pc1 := 427) (i + 1) (nI_add i 1) (by omega) hn dL_426 rfl ?_
  refine L_vi hC (pc1 := 430) (w11_detach g (xs (i + 1)) _ _) ly296 (lt305 rfl) s11_detach lL_36 rfl rfl ⟨Nat.le_of_ble_eq_true rfl, Nat.le_of_ble_eq_true rfl, hk, hs⟩ (Nat.le_of_ble_eq_true rfl) rfl dL_427 rfl ?_
  exact L_icmp_eq hC (tgt := 1649) (pc1 := 433) dL_430 (by decide) rfl (fun _ => cont _ _ hN) (fun q => absurd eR q)
theorem cs_5 (hC : cL g K n xs) (hn : n ≤ 3072) {i b : Nat} (hi : i + 6 ≤ n) (hb : b < 2 ^ 26) (hk : kc ≤ 600000) (hs : ks ≤ 7302250) (h : REL b I L I) (cont : ∀ I' L', REL (b + 1000) I' L' I' → VL g K kc ks 1649 (lvL g K i) [] (I', L', R0, 305)) : VL g K kc ks 435 (lvL g K i) [] (I, L, R0, 305) := by
  refine L_aload_n hC (pc1 := 436) 1 dL_435 rfl rfl ?_
  refine L_aload_n hC (pc1 := 437) 0 dL_436 rfl rfl ?_
  refine L_iload_n hC (pc1 := 438) 3 dL_437 rfl rfl ?_
  refine L_iconst hC (pc1 := 439) dL_438 vc_1 rfl ?_
  refine L_iadd hC (pc1 := 440) dL_439 rfl ?_
  refine L_sld hC (pc1 := 441) (i + 1) (nI_add i 1) (by omega) hn dL_440 rfl ?_
  refine L_vi hC (pc1 := 444) (w10_attach g (xs (i + 1)) I L) ly0 (lt305 rfl) s10_attach lL_37 rfl rfl ⟨Nat.le_of_ble_eq_true rfl, Nat.le_of_ble_eq_true rfl, hk, hs⟩ (Nat.le_of_ble_eq_true rfl) rfl dL_441 rfl ?_
  obtain ⟨eR, hj, hN⟩ := OK2.join (R := fun J => r11_attach (xs (i + 1)) J _) (F := fun J => i11_attach (xs (i + 1)) J _) h (fun J hJ => Y_attach (nd := xs (i + 1)) hJ)
  refine L_aload_n hC (pc1 := 445) 2 dL_444 rfl rfl ?_
  refine L_aload_n hC (pc1 := 446) 0 dL_445 rfl rfl ?_
  refine L_iload_n hC (pc1 := 447) 3 dL_446 rfl rfl ?_
  refine L_iconst hC (pc1 := 448) dL_447 vc_1 rfl ?_
  refine L_iadd hC (pc1 := 449) dL_448 rfl ?_
  refine L_sld hC (pc1 := 450) (i + 1) (nI_add i 1) (by omega) hn dL_449 rfl ?_
  refine L_vi hC (pc1 := 453) (w11_attach g (xs (i + 1)) _ _ hj.rv) ly296 (lt305 rfl) s11_attach lL_40 rfl rfl ⟨Nat.le_of_ble_eq_true rfl, Nat.le_of_ble_eq_true rfl, hk, hs⟩ (Nat.le_of_ble_eq_true rfl) rfl dL_450 rfl ?_
  exact L_icmp_eq hC (tgt := 1649) (pc1 := 456) dL_453 (by decide) rfl (fun _ => cont _ _ hN) (fun q => absurd eR q)
theorem cs_6 (hC : cL g K n xs) (hn : n ≤ 3072) {i b : Nat} (hi : i + 6 ≤ n) (hb : b < 2 ^ 26) (hk : kc ≤ 600000) (hs : ks ≤ 7302250) (h : REL b I L I) (cont : ∀ I' L', REL (b + 1000) I' L' I' → VL g K kc ks 1649 (lvL g K i) [] (I', L', R0, 305)) : VL g K kc ks 458 (lvL g K i) [] (I, L, R0, 305) := by
  refine L_aload_n hC (pc1 := 459) 1 dL_458 rfl rfl ?_
  refine L_aload_n hC (pc1 := 460) 0 dL_459 rfl rfl ?_
  refine L_iload_n hC (pc1 := 461) 3 dL_460 rfl rfl ?_
  refine L_iconst hC (pc1 := 462) dL_461 vc_1 rfl ?_
  refine L_iadd hC (pc1 := 463) dL_462 rfl ?_
  refine L_sld hC (pc1 := 464) (i + 1) (nI_add i 1) (by omega) hn dL_463 rfl ?_
  refine L_aload_n hC (pc1 := 465) 0 dL_464 rfl rfl ?_
  refine L_iload_n hC (pc1 := 466) 3 dL_465 rfl rfl ?_
  refine L_iconst hC (pc1 := 467) dL_466 vc_2 rfl ?_
  refine L_iadd hC (pc1 := 468) dL_467 rfl ?_
  refine L_sld hC (pc1 := 469) (i + 2) (nI_add i 2) (by omega) hn dL_468 rfl ?_
  refine L_aload_n hC (pc1 := 470) 0 dL_469 rfl rfl ?_
  refine L_iload_n hC (pc1 := 471) 3 dL_470 rfl rfl ?_
  refine L_iconst hC (pc1 := 472) dL_471 vc_3 rfl ?_
  refine L_iadd hC (pc1 := 473) dL_472 rfl ?_
  refine L_sld hC (pc1 := 474) (i + 3) (nI_add i 3) (by omega) hn dL_473 rfl ?_
  refine L_b hC (p3 := 481) (tgt := 482) (p1 := 477) (p2 := 478) dL_474 (by decide) rfl dL_477 rfl dL_478 (by decide) dL_481 rfl ?_
  refine L_aload_n hC (pc1 := 483) 0 dL_482 rfl rfl ?_
  refine L_iload_n hC (pc1 := 484) 3 dL_483 rfl rfl ?_
  refine L_iconst hC (pc1 := 485) dL_484 vc_4 rfl ?_
  refine L_iadd hC (pc1 := 486) dL_485 rfl ?_
  refine L_sld hC (pc1 := 487) (i + 4) (nI_add i 4) (by omega) hn dL_486 rfl ?_
  refine L_aload_n hC (pc1 := 488) 0 dL_487 rfl rfl ?_
  refine L_iload_n hC (pc1 := 489) 3 dL_488 rfl rfl ?_
  refine L_iconst hC (pc1 := 490) dL_489 vc_5 rfl ?_
  refine L_iadd hC (pc1 := 491) dL_490 rfl ?_
  refine L_sld hC (pc1 := 492) (i + 5) (nI_add i 5) (by omega) hn dL_491 rfl ?_
  refine L_vi hC (pc1 := 495) (w10_request g (xs (i + 1)) (xs (i + 2)) (bI (if xs (i + 3) = 0 then false else true)) (xs (i + 4)) (xs (i + 5)) I L h.cv) ly0 (lt305 rfl) s10_request lL_41 rfl rfl ⟨Nat.le_of_ble_eq_true rfl, Nat.le_of_ble_eq_true rfl, hk, hs⟩ (Nat.le_of_ble_eq_true rfl) rfl dL_492 rfl ?_
  obtain ⟨eR, hj, hN⟩ := OK2.join (R := fun J => r11_request (xs (i + 1)) (xs (i + 2)) (bI (if xs (i + 3) = 0 then false else true)) (xs (i + 4)) (xs (i + 5)) J _) (F := fun J => i11_request (xs (i + 1)) (xs (i + 2)) (bI (if xs (i + 3) = 0 then false else true)) (xs (i + 4)) (xs (i + 5)) J _) h (fun J hJ => Y_request (nd := xs (i + 1)) (a1 := xs (i + 2)) (a2 := bI (if xs (i + 3) = 0 then false else true)) (a3 := xs (i + 4)) (a4 := xs (i + 5)) hJ)
  refine L_aload_n hC (pc1 := 496) 2 dL_495 rfl rfl ?_
  refine L_aload_n hC (pc1 := 497) 0 dL_496 rfl rfl ?_
  refine L_iload_n hC (pc1 := 498) 3 dL_497 rfl rfl ?_
  refine L_iconst hC (pc1 := 499) dL_498 vc_1 rfl ?_
  refine L_iadd hC (pc1 := 500) dL_499 rfl ?_
  refine L_sld hC (pc1 := 501) (i + 1) (nI_add i 1) (by omega) hn dL_500 rfl ?_
  refine L_aload_n hC (pc1 := 502) 0 dL_501 rfl rfl ?_
  refine L_iload_n hC (pc1 := 503) 3 dL_502 rfl rfl ?_
  refine L_iconst hC (pc1 := 504) dL_503 vc_2 rfl ?_
  refine L_iadd hC (pc1 := 505) dL_504 rfl ?_
  refine L_sld hC (pc1 := 506) (i + 2) (nI_add i 2) (by omega) hn dL_505 rfl ?_
  refine L_aload_n hC (pc1 := 507) 0 dL_506 rfl rfl ?_
  refine L_iload_n hC (pc1 := 508) 3 dL_507 rfl rfl ?_
  refine L_iconst hC (pc1 := 509) dL_508 vc_3 rfl ?_
  refine L_iadd hC (pc1 := 510) dL_509 rfl ?_
  refine L_sld hC (pc1 := 511) (i + 3) (nI_add i 3) (by omega) hn dL_510 rfl ?_
  refine L_b hC (p3 := 518) (tgt := 519) (p1 := 514) (p2 := 515) dL_511 (by decide) rfl dL_514 rfl dL_515 (by decide) dL_518 rfl ?_
  refine L_aload_n hC (pc1 := 520) 0 dL_519 rfl rfl ?_
  refine L_iload_n hC (pc1 := 521) 3 dL_520 rfl rfl ?_
  refine L_iconst hC (pc1 := 522) dL_521 vc_4 rfl ?_
  refine L_iadd hC (pc1 := 523) dL_522 rfl ?_
  refine L_sld hC (pc1 := 524) (i + 4) (nI_add i 4) (by omega) hn dL_523 rfl ?_
  refine L_aload_n hC (pc1 := 525) 0 dL_524 rfl rfl ?_
  refine L_iload_n hC (pc1 := 526) 3 dL_525 rfl rfl ?_
  refine L_iconst hC (pc1 := 527) dL_526 vc_5 rfl ?_
  refine L_iadd hC (pc1 := 528) dL_527 rfl ?_
  refine L_sld hC (pc1 := 529) (i + 5) (nI_add i 5) (by omega) hn dL_528 rfl ?_
  refine L_vi hC (pc1 := 532) (w11_request g (xs (i + 1)) (xs (i + 2)) (bI (if xs (i + 3) = 0 then false else true)) (xs (i + 4)) (xs (i + 5)) _ _ hj.rv) ly296 (lt305 rfl) s11_request lL_45 rfl rfl ⟨Nat.le_of_ble_eq_true rfl, Nat.le_of_ble_eq_true rfl, hk, hs⟩ (Nat.le_of_ble_eq_true rfl) rfl dL_529 rfl ?_
  exact L_icmp_eq hC (tgt := 1649) (pc1 := 535) dL_532 (by decide) rfl (fun _ => cont _ _ hN) (fun q => absurd eR q)
theorem cs_7 (hC : cL g K n xs) (hn : n ≤ 3072) {i b : Nat} (hi : i + 6 ≤ n) (hb : b < 2 ^ 26) (hk : kc ≤ 600000) (hs : ks ≤ 7302250) (h : REL b I L I) (cont : ∀ I' L', REL (b + 1000) I' L' I' → VL g K kc ks 1649 (lvL g K i) [] (I', L', R0, 305)) : VL g K kc ks 537 (lvL g K i) [] (I, L, R0, 305) := by
  refine L_aload_n hC (pc1 := 538) 1 dL_537 rfl rfl ?_
  refine L_aload_n hC (pc1 := 539) 0 dL_538 rfl rfl ?_
  refine L_iload_n hC (pc1 := 540) 3 dL_539 rfl rfl ?_
  refine L_iconst hC (pc1 := 541) dL_540 vc_1 rfl ?_
  refine L_iadd hC (pc1 := 542) dL_541 rfl ?_
  refine L_sld hC (pc1 := 543) (i + 1) (nI_add i 1) (by omega) hn dL_542 rfl ?_
  refine L_aload_n hC (pc1 := 544) 0 dL_543 rfl rfl ?_
  refine L_iload_n hC (pc1 := 545) 3 dL_544 rfl rfl ?_
  refine L_iconst hC (pc1 := 546) dL_545 vc_2 rfl ?_
  refine L_iadd hC (pc1 := 547) dL_546 rfl ?_
  refine L_sld hC (pc1 := 548) (i + 2) (nI_add i 2) (by omega) hn dL_547 rfl ?_
  refine L_vi hC (pc1 := 551) (w10_cancel g (xs (i + 1)) (xs (i + 2)) I L h.cv) ly0 (lt305 rfl) s10_cancel lL_46 rfl rfl ⟨Nat.le_of_ble_eq_true rfl, Nat.le_of_ble_eq_true rfl, hk, hs⟩ (Nat.le_of_ble_eq_true rfl) rfl dL_548 rfl ?_
  obtain ⟨eR, hj, hN⟩ := OK2.join (R := fun J => r11_cancel (xs (i + 1)) (xs (i + 2)) J _) (F := fun J => i11_cancel (xs (i + 1)) (xs (i + 2)) J _) h (fun J hJ => Y_cancel (nd := xs (i + 1)) (x := xs (i + 2)) hJ)
  refine L_aload_n hC (pc1 := 552) 2 dL_551 rfl rfl ?_
  refine L_aload_n hC (pc1 := 553) 0 dL_552 rfl rfl ?_
  refine L_iload_n hC (pc1 := 554) 3 dL_553 rfl rfl ?_
  refine L_iconst hC (pc1 := 555) dL_554 vc_1 rfl ?_
  refine L_iadd hC (pc1 := 556) dL_555 rfl ?_
  refine L_sld hC (pc1 := 557) (i + 1) (nI_add i 1) (by omega) hn dL_556 rfl ?_
  refine L_aload_n hC (pc1 := 558) 0 dL_557 rfl rfl ?_
  refine L_iload_n hC (pc1 := 559) 3 dL_558 rfl rfl ?_
  refine L_iconst hC (pc1 := 560) dL_559 vc_2 rfl ?_
  refine L_iadd hC (pc1 := 561) dL_560 rfl ?_
  refine L_sld hC (pc1 := 562) (i + 2) (nI_add i 2) (by omega) hn dL_561 rfl ?_
  refine L_vi hC (pc1 := 565) (w11_cancel g (xs (i + 1)) (xs (i + 2)) _ _ hj.rv) ly296 (lt305 rfl) s11_cancel lL_49 rfl rfl ⟨Nat.le_of_ble_eq_true rfl, Nat.le_of_ble_eq_true rfl, hk, hs⟩ (Nat.le_of_ble_eq_true rfl) rfl dL_562 rfl ?_
  exact L_icmp_eq hC (tgt := 1649) (pc1 := 568) dL_565 (by decide) rfl (fun _ => cont _ _ hN) (fun q => absurd eR q)
theorem cs_8 (hC : cL g K n xs) (hn : n ≤ 3072) {i b : Nat} (hi : i + 6 ≤ n) (hb : b < 2 ^ 26) (hk : kc ≤ 600000) (hs : ks ≤ 7302250) (h : REL b I L I) (cont : ∀ I' L', REL (b + 1000) I' L' I' → VL g K kc ks 1649 (lvL g K i) [] (I', L', R0, 305)) : VL g K kc ks 570 (lvL g K i) [] (I, L, R0, 305) := by
  refine L_aload_n hC (pc1 := 571) 1 dL_570 rfl rfl ?_
  refine L_aload_n hC (pc1 := 572) 0 dL_571 rfl rfl ?_
  refine L_iload_n hC (pc1 := 573) 3 dL_572 rfl rfl ?_
  refine L_iconst hC (pc1 := 574) dL_573 vc_1 rfl ?_
  refine L_iadd hC (pc1 := 575) dL_574 rfl ?_
  refine L_sld hC (pc1 := 576) (i + 1) (nI_add i 1) (by omega) hn dL_575 rfl ?_
  refine L_aload_n hC (pc1 := 577) 0 dL_576 rfl rfl ?_
  refine L_iload_n hC (pc1 := 578) 3 dL_577 rfl rfl ?_
  refine L_iconst hC (pc1 := 579) dL_578 vc_2 rfl ?_
  refine L_iadd hC (pc1 := 580) dL_579 rfl ?_
  refine L_sld hC (pc1 := 581) (i + 2) (nI_add i 2) (by omega) hn dL_580 rfl ?_
  refine L_vi hC (pc1 := 584) (w10_disturb g (xs (i + 1)) (xs (i + 2)) I L h.cv) ly0 (lt305 rfl) s10_disturb lL_50 rfl rfl ⟨Nat.le_of_ble_eq_true rfl, Nat.le_of_ble_eq_true rfl, hk, hs⟩ (Nat.le_of_ble_eq_true rfl) rfl dL_581 rfl ?_
  obtain ⟨eR, hj, hN⟩ := OK2.join (R := fun J => r11_disturb (xs (i + 1)) (xs (i + 2)) J _) (F := fun J => i11_disturb (xs (i + 1)) (xs (i + 2)) J _) h (fun J hJ => Y_disturb (a1 := xs (i + 1)) (x := xs (i + 2)) hJ)
  refine L_aload_n hC (pc1 := 585) 2 dL_584 rfl rfl ?_
  refine L_aload_n hC (pc1 := 586) 0 dL_585 rfl rfl ?_
  refine L_iload_n hC (pc1 := 587) 3 dL_586 rfl rfl ?_
  refine L_iconst hC (pc1 := 588) dL_587 vc_1 rfl ?_
  refine L_iadd hC (pc1 := 589) dL_588 rfl ?_
  refine L_sld hC (pc1 := 590) (i + 1) (nI_add i 1) (by omega) hn dL_589 rfl ?_
  refine L_aload_n hC (pc1 := 591) 0 dL_590 rfl rfl ?_
  refine L_iload_n hC (pc1 := 592) 3 dL_591 rfl rfl ?_
  refine L_iconst hC (pc1 := 593) dL_592 vc_2 rfl ?_
  refine L_iadd hC (pc1 := 594) dL_593 rfl ?_
  refine L_sld hC (pc1 := 595) (i + 2) (nI_add i 2) (by omega) hn dL_594 rfl ?_
  obtain ⟨dd, hd8, hd⟩ := hj.rd
  refine L_vi hC (pc1 := 598) (w11_disturb g (xs (i + 1)) (xs (i + 2)) dd hd8 _ _ hd) ly296 (lt305 rfl) s11_disturb lL_53 rfl rfl ⟨Nat.le_of_ble_eq_true rfl, Nat.le_of_ble_eq_true rfl, hk, hs⟩ (Nat.le_of_ble_eq_true rfl) rfl dL_595 rfl ?_
  exact L_icmp_eq hC (tgt := 1649) (pc1 := 601) dL_598 (by decide) rfl (fun _ => cont _ _ hN) (fun q => absurd eR q)
theorem cs_9 (hC : cL g K n xs) (hn : n ≤ 3072) {i b : Nat} (hi : i + 6 ≤ n) (hb : b < 2 ^ 26) (hk : kc ≤ 600000) (hs : ks ≤ 7302250) (h : REL b I L I) (cont : ∀ I' L', REL (b + 1000) I' L' I' → VL g K kc ks 1649 (lvL g K i) [] (I', L', R0, 305)) : VL g K kc ks 603 (lvL g K i) [] (I, L, R0, 305) := by
  refine L_aload_n hC (pc1 := 604) 1 dL_603 rfl rfl ?_
  refine L_aload_n hC (pc1 := 605) 0 dL_604 rfl rfl ?_
  refine L_iload_n hC (pc1 := 606) 3 dL_605 rfl rfl ?_
  refine L_iconst hC (pc1 := 607) dL_606 vc_1 rfl ?_
  refine L_iadd hC (pc1 := 608) dL_607 rfl ?_
  refine L_sld hC (pc1 := 609) (i + 1) (nI_add i 1) (by omega) hn dL_608 rfl ?_
  refine L_vi hC (pc1 := 612) (w10_run g (xs (i + 1)) I L h.cv) ly0 (lt305 rfl) s10_run lL_54 rfl rfl ⟨Nat.le_of_ble_eq_true rfl, Nat.le_of_ble_eq_true rfl, hk, hs⟩ (Nat.le_of_ble_eq_true rfl) rfl dL_609 rfl ?_
  obtain ⟨eR, hj, hN⟩ := OK2.join (R := fun J => r11_run (xs (i + 1)) J _) (F := fun J => i11_run (xs (i + 1)) J _) h (fun J hJ => Y_run (x := xs (i + 1)) hb hJ)
  refine L_aload_n hC (pc1 := 613) 2 dL_612 rfl rfl ?_
  refine L_aload_n hC (pc1 := 614) 0 dL_613 rfl rfl ?_
  refine L_iload_n hC (pc1 := 615) 3 dL_614 rfl rfl ?_
  refine L_iconst hC (pc1 := 616) dL_615 vc_1 rfl ?_
  refine L_iadd hC (pc1 := 617) dL_616 rfl ?_
  refine L_sld hC (pc1 := 618) (i + 1) (nI_add i 1) (by omega) hn dL_617 rfl ?_
  refine L_vi hC (pc1 := 621) (w11_run g (xs (i + 1)) b hb _ _ hj.rb) ly296 (lt305 rfl) s11_run lL_57 rfl rfl ⟨Nat.le_of_ble_eq_true rfl, Nat.le_of_ble_eq_true rfl, hk, hs⟩ (Nat.le_of_ble_eq_true rfl) rfl dL_618 rfl ?_
  exact L_icmp_eq hC (tgt := 1649) (pc1 := 624) dL_621 (by decide) rfl (fun _ => cont _ _ hN) (fun q => absurd eR q)
theorem cs_10 (hC : cL g K n xs) (hn : n ≤ 3072) {i b : Nat} (hi : i + 6 ≤ n) (hb : b < 2 ^ 26) (hk : kc ≤ 600000) (hs : ks ≤ 7302250) (h : REL b I L I) (cont : ∀ I' L', REL (b + 1000) I' L' I' → VL g K kc ks 1649 (lvL g K i) [] (I', L', R0, 305)) : VL g K kc ks 626 (lvL g K i) [] (I, L, R0, 305) := by
  refine L_aload_n hC (pc1 := 627) 1 dL_626 rfl rfl ?_
  refine L_vi hC (pc1 := 630) (w10_settle g I L h.cv) ly0 (lt305 rfl) s10_settle lL_58 rfl rfl ⟨Nat.le_of_ble_eq_true rfl, Nat.le_of_ble_eq_true rfl, hk, hs⟩ (Nat.le_of_ble_eq_true rfl) rfl dL_627 rfl ?_
  obtain ⟨eR, hj, hN⟩ := settle_J hb h
  refine L_aload_n hC (pc1 := 631) 2 dL_630 rfl rfl ?_
  refine L_vi hC (pc1 := 634) (w11_settle g b hb _ _ hj.rb) ly296 (lt305 rfl) s11_settle lL_62 rfl rfl ⟨Nat.le_of_ble_eq_true rfl, Nat.le_of_ble_eq_true rfl, hk, hs⟩ (Nat.le_of_ble_eq_true rfl) rfl dL_631 rfl ?_
  exact cont_J cont hN eR hC dL_634 (by decide)
theorem cs_11 (hC : cL g K n xs) (hn : n ≤ 3072) {i b : Nat} (hi : i + 6 ≤ n) (hb : b < 2 ^ 26) (hk : kc ≤ 600000) (hs : ks ≤ 7302250) (h : REL b I L I) (cont : ∀ I' L', REL (b + 1000) I' L' I' → VL g K kc ks 1649 (lvL g K i) [] (I', L', R0, 305)) : VL g K kc ks 639 (lvL g K i) [] (I, L, R0, 305) := by
  refine L_aload_n hC (pc1 := 640) 1 dL_639 rfl rfl ?_
  refine L_aload_n hC (pc1 := 641) 0 dL_640 rfl rfl ?_
  refine L_iload_n hC (pc1 := 642) 3 dL_641 rfl rfl ?_
  refine L_iconst hC (pc1 := 643) dL_642 vc_1 rfl ?_
  refine L_iadd hC (pc1 := 644) dL_643 rfl ?_
  refine L_sld hC (pc1 := 645) (i + 1) (nI_add i 1) (by omega) hn dL_644 rfl ?_
  refine L_vi hC (pc1 := 648) (w10_phase g (xs (i + 1)) I L) ly0 (lt305 rfl) s10_phase lL_63 rfl rfl ⟨Nat.le_of_ble_eq_true rfl, Nat.le_of_ble_eq_true rfl, hk, hs⟩ (Nat.le_of_ble_eq_true rfl) rfl dL_645 rfl ?_
  obtain ⟨eR, hj, hN⟩ := OK2.join (R := fun J => r11_phase (xs (i + 1)) J _) (F := fun J => J) h (fun J hJ => Y_phase (nd := xs (i + 1)) hJ)
  refine L_aload_n hC (pc1 := 649) 2 dL_648 rfl rfl ?_
  refine L_aload_n hC (pc1 := 650) 0 dL_649 rfl rfl ?_
  refine L_iload_n hC (pc1 := 651) 3 dL_650 rfl rfl ?_
  refine L_iconst hC (pc1 := 652) dL_651 vc_1 rfl ?_
  refine L_iadd hC (pc1 := 653) dL_652 rfl ?_
  refine L_sld hC (pc1 := 654) (i + 1) (nI_add i 1) (by omega) hn dL_653 rfl ?_
  refine L_vi hC (pc1 := 657) (w11_phase g (xs (i + 1)) _ _) ly296 (lt305 rfl) s11_phase lL_66 rfl rfl ⟨Nat.le_of_ble_eq_true rfl, Nat.le_of_ble_eq_true rfl, hk, hs⟩ (Nat.le_of_ble_eq_true rfl) rfl dL_654 rfl ?_
  exact L_icmp_eq hC (tgt := 1649) (pc1 := 660) dL_657 (by decide) rfl (fun _ => cont _ _ hN) (fun q => absurd eR q)
theorem cs_12 (hC : cL g K n xs) (hn : n ≤ 3072) {i b : Nat} (hi : i + 6 ≤ n) (hb : b < 2 ^ 26) (hk : kc ≤ 600000) (hs : ks ≤ 7302250) (h : REL b I L I) (cont : ∀ I' L', REL (b + 1000) I' L' I' → VL g K kc ks 1649 (lvL g K i) [] (I', L', R0, 305)) : VL g K kc ks 662 (lvL g K i) [] (I, L, R0, 305) := by
  refine L_aload_n hC (pc1 := 663) 1 dL_662 rfl rfl ?_
  refine L_aload_n hC (pc1 := 664) 0 dL_663 rfl rfl ?_
  refine L_iload_n hC (pc1 := 665) 3 dL_664 rfl rfl ?_
  refine L_iconst hC (pc1 := 666) dL_665 vc_1 rfl ?_
  refine L_iadd hC (pc1 := 667) dL_666 rfl ?_
  refine L_sld hC (pc1 := 668) (i + 1) (nI_add i 1) (by omega) hn dL_667 rfl ?_
  refine L_vi hC (pc1 := 671) (w10_isTransmitter g (xs (i + 1)) I L) ly0 (lt305 rfl) s10_isTransmitter lL_67 rfl rfl ⟨Nat.le_of_ble_eq_true rfl, Nat.le_of_ble_eq_true rfl, hk, hs⟩ (Nat.le_of_ble_eq_true rfl) rfl dL_668 rfl ?_
  obtain ⟨eR, hj, hN⟩ := OK2.join (R := fun J => r11_isTransmitter (xs (i + 1)) J _) (F := fun J => J) h (fun J hJ => Y_isTransmitter (nd := xs (i + 1)) hJ)
  refine L_aload_n hC (pc1 := 672) 2 dL_671 rfl rfl ?_
  refine L_aload_n hC (pc1 := 673) 0 dL_672 rfl rfl ?_
  refine L_iload_n hC (pc1 := 674) 3 dL_673 rfl rfl ?_
  refine L_iconst hC (pc1 := 675) dL_674 vc_1 rfl ?_
  refine L_iadd hC (pc1 := 676) dL_675 rfl ?_
  refine L_sld hC (pc1 := 677) (i + 1) (nI_add i 1) (by omega) hn dL_676 rfl ?_
  refine L_vi hC (pc1 := 680) (w11_isTransmitter g (xs (i + 1)) _ _) ly296 (lt305 rfl) s11_isTransmitter lL_70 rfl rfl ⟨Nat.le_of_ble_eq_true rfl, Nat.le_of_ble_eq_true rfl, hk, hs⟩ (Nat.le_of_ble_eq_true rfl) rfl dL_677 rfl ?_
  exact L_icmp_eq hC (tgt := 1649) (pc1 := 683) dL_680 (by decide) rfl (fun _ => cont _ _ hN) (fun q => absurd eR q)
theorem cs_13 (hC : cL g K n xs) (hn : n ≤ 3072) {i b : Nat} (hi : i + 6 ≤ n) (hb : b < 2 ^ 26) (hk : kc ≤ 600000) (hs : ks ≤ 7302250) (h : REL b I L I) (cont : ∀ I' L', REL (b + 1000) I' L' I' → VL g K kc ks 1649 (lvL g K i) [] (I', L', R0, 305)) : VL g K kc ks 685 (lvL g K i) [] (I, L, R0, 305) := by
  refine L_aload_n hC (pc1 := 686) 1 dL_685 rfl rfl ?_
  refine L_aload_n hC (pc1 := 687) 0 dL_686 rfl rfl ?_
  refine L_iload_n hC (pc1 := 688) 3 dL_687 rfl rfl ?_
  refine L_iconst hC (pc1 := 689) dL_688 vc_1 rfl ?_
  refine L_iadd hC (pc1 := 690) dL_689 rfl ?_
  refine L_sld hC (pc1 := 691) (i + 1) (nI_add i 1) (by omega) hn dL_690 rfl ?_
  refine L_vi hC (pc1 := 694) (w10_transmitErrors g (xs (i + 1)) I L) ly0 (lt305 rfl) s10_transmitErrors lL_71 rfl rfl ⟨Nat.le_of_ble_eq_true rfl, Nat.le_of_ble_eq_true rfl, hk, hs⟩ (Nat.le_of_ble_eq_true rfl) rfl dL_691 rfl ?_
  obtain ⟨eR, hj, hN⟩ := OK2.join (R := fun J => r11_transmitErrors (xs (i + 1)) J _) (F := fun J => J) h (fun J hJ => Y_transmitErrors (nd := xs (i + 1)) hJ)
  refine L_aload_n hC (pc1 := 695) 2 dL_694 rfl rfl ?_
  refine L_aload_n hC (pc1 := 696) 0 dL_695 rfl rfl ?_
  refine L_iload_n hC (pc1 := 697) 3 dL_696 rfl rfl ?_
  refine L_iconst hC (pc1 := 698) dL_697 vc_1 rfl ?_
  refine L_iadd hC (pc1 := 699) dL_698 rfl ?_
  refine L_sld hC (pc1 := 700) (i + 1) (nI_add i 1) (by omega) hn dL_699 rfl ?_
  refine L_vi hC (pc1 := 703) (w11_transmitErrors g (xs (i + 1)) _ _) ly296 (lt305 rfl) s11_transmitErrors lL_74 rfl rfl ⟨Nat.le_of_ble_eq_true rfl, Nat.le_of_ble_eq_true rfl, hk, hs⟩ (Nat.le_of_ble_eq_true rfl) rfl dL_700 rfl ?_
  exact L_icmp_eq hC (tgt := 1649) (pc1 := 706) dL_703 (by decide) rfl (fun _ => cont _ _ hN) (fun q => absurd eR q)
theorem cs_14 (hC : cL g K n xs) (hn : n ≤ 3072) {i b : Nat} (hi : i + 6 ≤ n) (hb : b < 2 ^ 26) (hk : kc ≤ 600000) (hs : ks ≤ 7302250) (h : REL b I L I) (cont : ∀ I' L', REL (b + 1000) I' L' I' → VL g K kc ks 1649 (lvL g K i) [] (I', L', R0, 305)) : VL g K kc ks 708 (lvL g K i) [] (I, L, R0, 305) := by
  refine L_aload_n hC (pc1 := 709) 1 dL_708 rfl rfl ?_
  refine L_aload_n hC (pc1 := 710) 0 dL_709 rfl rfl ?_
  refine L_iload_n hC (pc1 := 711) 3 dL_710 rfl rfl ?_
  refine L_iconst hC (pc1 := 712) dL_711 vc_1 rfl ?_
  refine L_iadd hC (pc1 := 713) dL_712 rfl ?_
  refine L_sld hC (pc1 := 714) (i + 1) (nI_add i 1) (by omega) hn dL_713 rfl ?_
  refine L_vi hC (pc1 := 717) (w10_receiveErrors g (xs (i + 1)) I L) ly0 (lt305 rfl) s10_receiveErrors lL_75 rfl rfl ⟨Nat.le_of_ble_eq_true rfl, Nat.le_of_ble_eq_true rfl, hk, hs⟩ (Nat.le_of_ble_eq_true rfl) rfl dL_714 rfl ?_
  obtain ⟨eR, hj, hN⟩ := OK2.join (R := fun J => r11_receiveErrors (xs (i + 1)) J _) (F := fun J => J) h (fun J hJ => Y_receiveErrors (nd := xs (i + 1)) hJ)
  refine L_aload_n hC (pc1 := 718) 2 dL_717 rfl rfl ?_
  refine L_aload_n hC (pc1 := 719) 0 dL_718 rfl rfl ?_
  refine L_iload_n hC (pc1 := 720) 3 dL_719 rfl rfl ?_
  refine L_iconst hC (pc1 := 721) dL_720 vc_1 rfl ?_
  refine L_iadd hC (pc1 := 722) dL_721 rfl ?_
  refine L_sld hC (pc1 := 723) (i + 1) (nI_add i 1) (by omega) hn dL_722 rfl ?_
  refine L_vi hC (pc1 := 726) (w11_receiveErrors g (xs (i + 1)) _ _) ly296 (lt305 rfl) s11_receiveErrors lL_78 rfl rfl ⟨Nat.le_of_ble_eq_true rfl, Nat.le_of_ble_eq_true rfl, hk, hs⟩ (Nat.le_of_ble_eq_true rfl) rfl dL_723 rfl ?_
  exact L_icmp_eq hC (tgt := 1649) (pc1 := 729) dL_726 (by decide) rfl (fun _ => cont _ _ hN) (fun q => absurd eR q)
theorem cs_15 (hC : cL g K n xs) (hn : n ≤ 3072) {i b : Nat} (hi : i + 6 ≤ n) (hb : b < 2 ^ 26) (hk : kc ≤ 600000) (hs : ks ≤ 7302250) (h : REL b I L I) (cont : ∀ I' L', REL (b + 1000) I' L' I' → VL g K kc ks 1649 (lvL g K i) [] (I', L', R0, 305)) : VL g K kc ks 731 (lvL g K i) [] (I, L, R0, 305) := by
  refine L_aload_n hC (pc1 := 732) 1 dL_731 rfl rfl ?_
  refine L_aload_n hC (pc1 := 733) 0 dL_732 rfl rfl ?_
  refine L_iload_n hC (pc1 := 734) 3 dL_733 rfl rfl ?_
  refine L_iconst hC (pc1 := 735) dL_734 vc_1 rfl ?_
  refine L_iadd hC (pc1 := 736) dL_735 rfl ?_
  refine L_sld hC (pc1 := 737) (i + 1) (nI_add i 1) (by omega) hn dL_736 rfl ?_
  refine L_vi hC (pc1 := 740) (w10_isPassive g (xs (i + 1)) I L) ly0 (lt305 rfl) s10_isPassive lL_79 rfl rfl ⟨Nat.le_of_ble_eq_true rfl, Nat.le_of_ble_eq_true rfl, hk, hs⟩ (Nat.le_of_ble_eq_true rfl) rfl dL_737 rfl ?_
  obtain ⟨eR, hj, hN⟩ := OK2.join (R := fun J => r11_isPassive (xs (i + 1)) J _) (F := fun J => J) h (fun J hJ => Y_isPassive (nd := xs (i + 1)) hJ)
  refine L_aload_n hC (pc1 := 741) 2 dL_740 rfl rfl ?_
  refine L_aload_n hC (pc1 := 742) 0 dL_741 rfl rfl ?_
  refine L_iload_n hC (pc1 := 743) 3 dL_742 rfl rfl ?_
  refine L_iconst hC (pc1 := 744) dL_743 vc_1 rfl ?_
  refine L_iadd hC (pc1 := 745) dL_744 rfl ?_
  refine L_sld hC (pc1 := 746) (i + 1) (nI_add i 1) (by omega) hn dL_745 rfl ?_
  refine L_vi hC (pc1 := 749) (w11_isPassive g (xs (i + 1)) _ _) ly296 (lt305 rfl) s11_isPassive lL_82 rfl rfl ⟨Nat.le_of_ble_eq_true rfl, Nat.le_of_ble_eq_true rfl, hk, hs⟩ (Nat.le_of_ble_eq_true rfl) rfl dL_746 rfl ?_
  exact L_icmp_eq hC (tgt := 1649) (pc1 := 752) dL_749 (by decide) rfl (fun _ => cont _ _ hN) (fun q => absurd eR q)
theorem cs_16 (hC : cL g K n xs) (hn : n ≤ 3072) {i b : Nat} (hi : i + 6 ≤ n) (hb : b < 2 ^ 26) (hk : kc ≤ 600000) (hs : ks ≤ 7302250) (h : REL b I L I) (cont : ∀ I' L', REL (b + 1000) I' L' I' → VL g K kc ks 1649 (lvL g K i) [] (I', L', R0, 305)) : VL g K kc ks 754 (lvL g K i) [] (I, L, R0, 305) := by
  refine L_aload_n hC (pc1 := 755) 1 dL_754 rfl rfl ?_
  refine L_aload_n hC (pc1 := 756) 0 dL_755 rfl rfl ?_
  refine L_iload_n hC (pc1 := 757) 3 dL_756 rfl rfl ?_
  refine L_iconst hC (pc1 := 758) dL_757 vc_1 rfl ?_
  refine L_iadd hC (pc1 := 759) dL_758 rfl ?_
  refine L_sld hC (pc1 := 760) (i + 1) (nI_add i 1) (by omega) hn dL_759 rfl ?_
  refine L_aload_n hC (pc1 := 761) 0 dL_760 rfl rfl ?_
  refine L_iload_n hC (pc1 := 762) 3 dL_761 rfl rfl ?_
  refine L_iconst hC (pc1 := 763) dL_762 vc_2 rfl ?_
  refine L_iadd hC (pc1 := 764) dL_763 rfl ?_
  refine L_sld hC (pc1 := 765) (i + 2) (nI_add i 2) (by omega) hn dL_764 rfl ?_
  refine L_vi hC (pc1 := 768) (w10_errors g (xs (i + 1)) (xs (i + 2)) I L) ly0 (lt305 rfl) s10_errors lL_83 rfl rfl ⟨Nat.le_of_ble_eq_true rfl, Nat.le_of_ble_eq_true rfl, hk, hs⟩ (Nat.le_of_ble_eq_true rfl) rfl dL_765 rfl ?_
  obtain ⟨eR, hj, hN⟩ := OK2.join (R := fun J => r11_errors (xs (i + 1)) (xs (i + 2)) J _) (F := fun J => J) h (fun J hJ => Y_errors (nd := xs (i + 1)) (x := xs (i + 2)) hJ)
  refine L_aload_n hC (pc1 := 769) 2 dL_768 rfl rfl ?_
  refine L_aload_n hC (pc1 := 770) 0 dL_769 rfl rfl ?_
  refine L_iload_n hC (pc1 := 771) 3 dL_770 rfl rfl ?_
  refine L_iconst hC (pc1 := 772) dL_771 vc_1 rfl ?_
  refine L_iadd hC (pc1 := 773) dL_772 rfl ?_
  refine L_sld hC (pc1 := 774) (i + 1) (nI_add i 1) (by omega) hn dL_773 rfl ?_
  refine L_aload_n hC (pc1 := 775) 0 dL_774 rfl rfl ?_
  refine L_iload_n hC (pc1 := 776) 3 dL_775 rfl rfl ?_
  refine L_iconst hC (pc1 := 777) dL_776 vc_2 rfl ?_
  refine L_iadd hC (pc1 := 778) dL_777 rfl ?_
  refine L_sld hC (pc1 := 779) (i + 2) (nI_add i 2) (by omega) hn dL_778 rfl ?_
  refine L_vi hC (pc1 := 782) (w11_errors g (xs (i + 1)) (xs (i + 2)) _ _) ly296 (lt305 rfl) s11_errors lL_86 rfl rfl ⟨Nat.le_of_ble_eq_true rfl, Nat.le_of_ble_eq_true rfl, hk, hs⟩ (Nat.le_of_ble_eq_true rfl) rfl dL_779 rfl ?_
  exact L_icmp_eq hC (tgt := 1649) (pc1 := 785) dL_782 (by decide) rfl (fun _ => cont _ _ hN) (fun q => absurd eR q)
theorem cs_17 (hC : cL g K n xs) (hn : n ≤ 3072) {i b : Nat} (hi : i + 6 ≤ n) (hb : b < 2 ^ 26) (hk : kc ≤ 600000) (hs : ks ≤ 7302250) (h : REL b I L I) (cont : ∀ I' L', REL (b + 1000) I' L' I' → VL g K kc ks 1649 (lvL g K i) [] (I', L', R0, 305)) : VL g K kc ks 787 (lvL g K i) [] (I, L, R0, 305) := by
  refine L_aload_n hC (pc1 := 788) 1 dL_787 rfl rfl ?_
  refine L_aload_n hC (pc1 := 789) 0 dL_788 rfl rfl ?_
  refine L_iload_n hC (pc1 := 790) 3 dL_789 rfl rfl ?_
  refine L_iconst hC (pc1 := 791) dL_790 vc_1 rfl ?_
  refine L_iadd hC (pc1 := 792) dL_791 rfl ?_
  refine L_sld hC (pc1 := 793) (i + 1) (nI_add i 1) (by omega) hn dL_792 rfl ?_
  refine L_vi hC (pc1 := 796) (w10_lastError g (xs (i + 1)) I L) ly0 (lt305 rfl) s10_lastError lL_87 rfl rfl ⟨Nat.le_of_ble_eq_true rfl, Nat.le_of_ble_eq_true rfl, hk, hs⟩ (Nat.le_of_ble_eq_true rfl) rfl dL_793 rfl ?_
  obtain ⟨eR, hj, hN⟩ := OK2.join (R := fun J => r11_lastError (xs (i + 1)) J _) (F := fun J => J) h (fun J hJ => Y_lastError (nd := xs (i + 1)) hJ)
  refine L_aload_n hC (pc1 := 797) 2 dL_796 rfl rfl ?_
  refine L_aload_n hC (pc1 := 798) 0 dL_797 rfl rfl ?_
  refine L_iload_n hC (pc1 := 799) 3 dL_798 rfl rfl ?_
  refine L_iconst hC (pc1 := 800) dL_799 vc_1 rfl ?_
  refine L_iadd hC (pc1 := 801) dL_800 rfl ?_
  refine L_sld hC (pc1 := 802) (i + 1) (nI_add i 1) (by omega) hn dL_801 rfl ?_
  refine L_vi hC (pc1 := 805) (w11_lastError g (xs (i + 1)) _ _) ly296 (lt305 rfl) s11_lastError lL_90 rfl rfl ⟨Nat.le_of_ble_eq_true rfl, Nat.le_of_ble_eq_true rfl, hk, hs⟩ (Nat.le_of_ble_eq_true rfl) rfl dL_802 rfl ?_
  exact L_icmp_eq hC (tgt := 1649) (pc1 := 808) dL_805 (by decide) rfl (fun _ => cont _ _ hN) (fun q => absurd eR q)
theorem cs_18 (hC : cL g K n xs) (hn : n ≤ 3072) {i b : Nat} (hi : i + 6 ≤ n) (hb : b < 2 ^ 26) (hk : kc ≤ 600000) (hs : ks ≤ 7302250) (h : REL b I L I) (cont : ∀ I' L', REL (b + 1000) I' L' I' → VL g K kc ks 1649 (lvL g K i) [] (I', L', R0, 305)) : VL g K kc ks 810 (lvL g K i) [] (I, L, R0, 305) := by
  refine L_aload_n hC (pc1 := 811) 1 dL_810 rfl rfl ?_
  refine L_aload_n hC (pc1 := 812) 0 dL_811 rfl rfl ?_
  refine L_iload_n hC (pc1 := 813) 3 dL_812 rfl rfl ?_
  refine L_iconst hC (pc1 := 814) dL_813 vc_1 rfl ?_
  refine L_iadd hC (pc1 := 815) dL_814 rfl ?_
  refine L_sld hC (pc1 := 816) (i + 1) (nI_add i 1) (by omega) hn dL_815 rfl ?_
  refine L_vi hC (pc1 := 819) (w10_lostArbitrations g (xs (i + 1)) I L) ly0 (lt305 rfl) s10_lostArbitrations lL_91 rfl rfl ⟨Nat.le_of_ble_eq_true rfl, Nat.le_of_ble_eq_true rfl, hk, hs⟩ (Nat.le_of_ble_eq_true rfl) rfl dL_816 rfl ?_
  obtain ⟨eR, hj, hN⟩ := OK2.join (R := fun J => r11_lostArbitrations (xs (i + 1)) J _) (F := fun J => J) h (fun J hJ => Y_lostArbitrations (nd := xs (i + 1)) hJ)
  refine L_aload_n hC (pc1 := 820) 2 dL_819 rfl rfl ?_
  refine L_aload_n hC (pc1 := 821) 0 dL_820 rfl rfl ?_
  refine L_iload_n hC (pc1 := 822) 3 dL_821 rfl rfl ?_
  refine L_iconst hC (pc1 := 823) dL_822 vc_1 rfl ?_
  refine L_iadd hC (pc1 := 824) dL_823 rfl ?_
  refine L_sld hC (pc1 := 825) (i + 1) (nI_add i 1) (by omega) hn dL_824 rfl ?_
  refine L_vi hC (pc1 := 828) (w11_lostArbitrations g (xs (i + 1)) _ _) ly296 (lt305 rfl) s11_lostArbitrations lL_94 rfl rfl ⟨Nat.le_of_ble_eq_true rfl, Nat.le_of_ble_eq_true rfl, hk, hs⟩ (Nat.le_of_ble_eq_true rfl) rfl dL_825 rfl ?_
  exact L_icmp_eq hC (tgt := 1649) (pc1 := 831) dL_828 (by decide) rfl (fun _ => cont _ _ hN) (fun q => absurd eR q)
theorem cs_19 (hC : cL g K n xs) (hn : n ≤ 3072) {i b : Nat} (hi : i + 6 ≤ n) (hb : b < 2 ^ 26) (hk : kc ≤ 600000) (hs : ks ≤ 7302250) (h : REL b I L I) (cont : ∀ I' L', REL (b + 1000) I' L' I' → VL g K kc ks 1649 (lvL g K i) [] (I', L', R0, 305)) : VL g K kc ks 833 (lvL g K i) [] (I, L, R0, 305) := by
  refine L_aload_n hC (pc1 := 834) 1 dL_833 rfl rfl ?_
  refine L_aload_n hC (pc1 := 835) 0 dL_834 rfl rfl ?_
  refine L_iload_n hC (pc1 := 836) 3 dL_835 rfl rfl ?_
  refine L_iconst hC (pc1 := 837) dL_836 vc_1 rfl ?_
  refine L_iadd hC (pc1 := 838) dL_837 rfl ?_
  refine L_sld hC (pc1 := 839) (i + 1) (nI_add i 1) (by omega) hn dL_838 rfl ?_
  refine L_vi hC (pc1 := 842) (w10_overloads g (xs (i + 1)) I L) ly0 (lt305 rfl) s10_overloads lL_95 rfl rfl ⟨Nat.le_of_ble_eq_true rfl, Nat.le_of_ble_eq_true rfl, hk, hs⟩ (Nat.le_of_ble_eq_true rfl) rfl dL_839 rfl ?_
  obtain ⟨eR, hj, hN⟩ := OK2.join (R := fun J => r11_overloads (xs (i + 1)) J _) (F := fun J => J) h (fun J hJ => Y_overloads (nd := xs (i + 1)) hJ)
  refine L_aload_n hC (pc1 := 843) 2 dL_842 rfl rfl ?_
  refine L_aload_n hC (pc1 := 844) 0 dL_843 rfl rfl ?_
  refine L_iload_n hC (pc1 := 845) 3 dL_844 rfl rfl ?_
  refine L_iconst hC (pc1 := 846) dL_845 vc_1 rfl ?_
  refine L_iadd hC (pc1 := 847) dL_846 rfl ?_
  refine L_sld hC (pc1 := 848) (i + 1) (nI_add i 1) (by omega) hn dL_847 rfl ?_
  refine L_vi hC (pc1 := 851) (w11_overloads g (xs (i + 1)) _ _) ly296 (lt305 rfl) s11_overloads lL_98 rfl rfl ⟨Nat.le_of_ble_eq_true rfl, Nat.le_of_ble_eq_true rfl, hk, hs⟩ (Nat.le_of_ble_eq_true rfl) rfl dL_848 rfl ?_
  exact L_icmp_eq hC (tgt := 1649) (pc1 := 854) dL_851 (by decide) rfl (fun _ => cont _ _ hN) (fun q => absurd eR q)
theorem cs_20 (hC : cL g K n xs) (hn : n ≤ 3072) {i b : Nat} (hi : i + 6 ≤ n) (hb : b < 2 ^ 26) (hk : kc ≤ 600000) (hs : ks ≤ 7302250) (h : REL b I L I) (cont : ∀ I' L', REL (b + 1000) I' L' I' → VL g K kc ks 1649 (lvL g K i) [] (I', L', R0, 305)) : VL g K kc ks 856 (lvL g K i) [] (I, L, R0, 305) := by
  refine L_aload_n hC (pc1 := 857) 1 dL_856 rfl rfl ?_
  refine L_aload_n hC (pc1 := 858) 0 dL_857 rfl rfl ?_
  refine L_iload_n hC (pc1 := 859) 3 dL_858 rfl rfl ?_
  refine L_iconst hC (pc1 := 860) dL_859 vc_1 rfl ?_
  refine L_iadd hC (pc1 := 861) dL_860 rfl ?_
  refine L_sld hC (pc1 := 862) (i + 1) (nI_add i 1) (by omega) hn dL_861 rfl ?_
  refine L_vi hC (pc1 := 865) (w10_sent g (xs (i + 1)) I L) ly0 (lt305 rfl) s10_sent lL_99 rfl rfl ⟨Nat.le_of_ble_eq_true rfl, Nat.le_of_ble_eq_true rfl, hk, hs⟩ (Nat.le_of_ble_eq_true rfl) rfl dL_862 rfl ?_
  obtain ⟨eR, hj, hN⟩ := OK2.join (R := fun J => r11_sent (xs (i + 1)) J _) (F := fun J => J) h (fun J hJ => Y_sent (nd := xs (i + 1)) hJ)
  refine L_aload_n hC (pc1 := 866) 2 dL_865 rfl rfl ?_
  refine L_aload_n hC (pc1 := 867) 0 dL_866 rfl rfl ?_
  refine L_iload_n hC (pc1 := 868) 3 dL_867 rfl rfl ?_
  refine L_iconst hC (pc1 := 869) dL_868 vc_1 rfl ?_
  refine L_iadd hC (pc1 := 870) dL_869 rfl ?_
  refine L_sld hC (pc1 := 871) (i + 1) (nI_add i 1) (by omega) hn dL_870 rfl ?_
  refine L_vi hC (pc1 := 874) (w11_sent g (xs (i + 1)) _ _) ly296 (lt305 rfl) s11_sent lL_102 rfl rfl ⟨Nat.le_of_ble_eq_true rfl, Nat.le_of_ble_eq_true rfl, hk, hs⟩ (Nat.le_of_ble_eq_true rfl) rfl dL_871 rfl ?_
  exact L_icmp_eq hC (tgt := 1649) (pc1 := 877) dL_874 (by decide) rfl (fun _ => cont _ _ hN) (fun q => absurd eR q)
theorem cs_21 (hC : cL g K n xs) (hn : n ≤ 3072) {i b : Nat} (hi : i + 6 ≤ n) (hb : b < 2 ^ 26) (hk : kc ≤ 600000) (hs : ks ≤ 7302250) (h : REL b I L I) (cont : ∀ I' L', REL (b + 1000) I' L' I' → VL g K kc ks 1649 (lvL g K i) [] (I', L', R0, 305)) : VL g K kc ks 879 (lvL g K i) [] (I, L, R0, 305) := by
  refine L_aload_n hC (pc1 := 880) 1 dL_879 rfl rfl ?_
  refine L_aload_n hC (pc1 := 881) 0 dL_880 rfl rfl ?_
  refine L_iload_n hC (pc1 := 882) 3 dL_881 rfl rfl ?_
  refine L_iconst hC (pc1 := 883) dL_882 vc_1 rfl ?_
  refine L_iadd hC (pc1 := 884) dL_883 rfl ?_
  refine L_sld hC (pc1 := 885) (i + 1) (nI_add i 1) (by omega) hn dL_884 rfl ?_
  refine L_vi hC (pc1 := 888) (w10_overruns g (xs (i + 1)) I L) ly0 (lt305 rfl) s10_overruns lL_103 rfl rfl ⟨Nat.le_of_ble_eq_true rfl, Nat.le_of_ble_eq_true rfl, hk, hs⟩ (Nat.le_of_ble_eq_true rfl) rfl dL_885 rfl ?_
  obtain ⟨eR, hj, hN⟩ := OK2.join (R := fun J => r11_overruns (xs (i + 1)) J _) (F := fun J => J) h (fun J hJ => Y_overruns (nd := xs (i + 1)) hJ)
  refine L_aload_n hC (pc1 := 889) 2 dL_888 rfl rfl ?_
  refine L_aload_n hC (pc1 := 890) 0 dL_889 rfl rfl ?_
  refine L_iload_n hC (pc1 := 891) 3 dL_890 rfl rfl ?_
  refine L_iconst hC (pc1 := 892) dL_891 vc_1 rfl ?_
  refine L_iadd hC (pc1 := 893) dL_892 rfl ?_
  refine L_sld hC (pc1 := 894) (i + 1) (nI_add i 1) (by omega) hn dL_893 rfl ?_
  refine L_vi hC (pc1 := 897) (w11_overruns g (xs (i + 1)) _ _) ly296 (lt305 rfl) s11_overruns lL_106 rfl rfl ⟨Nat.le_of_ble_eq_true rfl, Nat.le_of_ble_eq_true rfl, hk, hs⟩ (Nat.le_of_ble_eq_true rfl) rfl dL_894 rfl ?_
  exact L_icmp_eq hC (tgt := 1649) (pc1 := 900) dL_897 (by decide) rfl (fun _ => cont _ _ hN) (fun q => absurd eR q)
theorem cs_22 (hC : cL g K n xs) (hn : n ≤ 3072) {i b : Nat} (hi : i + 6 ≤ n) (hb : b < 2 ^ 26) (hk : kc ≤ 600000) (hs : ks ≤ 7302250) (h : REL b I L I) (cont : ∀ I' L', REL (b + 1000) I' L' I' → VL g K kc ks 1649 (lvL g K i) [] (I', L', R0, 305)) : VL g K kc ks 902 (lvL g K i) [] (I, L, R0, 305) := by
  refine L_aload_n hC (pc1 := 903) 1 dL_902 rfl rfl ?_
  refine L_aload_n hC (pc1 := 904) 0 dL_903 rfl rfl ?_
  refine L_iload_n hC (pc1 := 905) 3 dL_904 rfl rfl ?_
  refine L_iconst hC (pc1 := 906) dL_905 vc_1 rfl ?_
  refine L_iadd hC (pc1 := 907) dL_906 rfl ?_
  refine L_sld hC (pc1 := 908) (i + 1) (nI_add i 1) (by omega) hn dL_907 rfl ?_
  refine L_vi hC (pc1 := 911) (w10_waiting g (xs (i + 1)) I L) ly0 (lt305 rfl) s10_waiting lL_107 rfl rfl ⟨Nat.le_of_ble_eq_true rfl, Nat.le_of_ble_eq_true rfl, hk, hs⟩ (Nat.le_of_ble_eq_true rfl) rfl dL_908 rfl ?_
  obtain ⟨eR, hj, hN⟩ := OK2.join (R := fun J => r11_waiting (xs (i + 1)) J _) (F := fun J => J) h (fun J hJ => Y_waiting (nd := xs (i + 1)) hJ)
  refine L_aload_n hC (pc1 := 912) 2 dL_911 rfl rfl ?_
  refine L_aload_n hC (pc1 := 913) 0 dL_912 rfl rfl ?_
  refine L_iload_n hC (pc1 := 914) 3 dL_913 rfl rfl ?_
  refine L_iconst hC (pc1 := 915) dL_914 vc_1 rfl ?_
  refine L_iadd hC (pc1 := 916) dL_915 rfl ?_
  refine L_sld hC (pc1 := 917) (i + 1) (nI_add i 1) (by omega) hn dL_916 rfl ?_
  refine L_vi hC (pc1 := 920) (w11_waiting g (xs (i + 1)) _ _) ly296 (lt305 rfl) s11_waiting lL_110 rfl rfl ⟨Nat.le_of_ble_eq_true rfl, Nat.le_of_ble_eq_true rfl, hk, hs⟩ (Nat.le_of_ble_eq_true rfl) rfl dL_917 rfl ?_
  exact L_icmp_eq hC (tgt := 1649) (pc1 := 923) dL_920 (by decide) rfl (fun _ => cont _ _ hN) (fun q => absurd eR q)
theorem cs_23 (hC : cL g K n xs) (hn : n ≤ 3072) {i b : Nat} (hi : i + 6 ≤ n) (hb : b < 2 ^ 26) (hk : kc ≤ 600000) (hs : ks ≤ 7302250) (h : REL b I L I) (cont : ∀ I' L', REL (b + 1000) I' L' I' → VL g K kc ks 1649 (lvL g K i) [] (I', L', R0, 305)) : VL g K kc ks 925 (lvL g K i) [] (I, L, R0, 305) := by
  refine L_aload_n hC (pc1 := 926) 1 dL_925 rfl rfl ?_
  refine L_aload_n hC (pc1 := 927) 0 dL_926 rfl rfl ?_
  refine L_iload_n hC (pc1 := 928) 3 dL_927 rfl rfl ?_
  refine L_iconst hC (pc1 := 929) dL_928 vc_1 rfl ?_
  refine L_iadd hC (pc1 := 930) dL_929 rfl ?_
  refine L_sld hC (pc1 := 931) (i + 1) (nI_add i 1) (by omega) hn dL_930 rfl ?_
  refine L_aload_n hC (pc1 := 932) 0 dL_931 rfl rfl ?_
  refine L_iload_n hC (pc1 := 933) 3 dL_932 rfl rfl ?_
  refine L_iconst hC (pc1 := 934) dL_933 vc_2 rfl ?_
  refine L_iadd hC (pc1 := 935) dL_934 rfl ?_
  refine L_sld hC (pc1 := 936) (i + 2) (nI_add i 2) (by omega) hn dL_935 rfl ?_
  refine L_vi hC (pc1 := 939) (w10_waitingFrame g (xs (i + 1)) (xs (i + 2)) I L h.cv) ly0 (lt305 rfl) s10_waitingFrame lL_111 rfl rfl ⟨Nat.le_of_ble_eq_true rfl, Nat.le_of_ble_eq_true rfl, hk, hs⟩ (Nat.le_of_ble_eq_true rfl) rfl dL_936 rfl ?_
  obtain ⟨eR, hj, hN⟩ := OK2.join (R := fun J => r11_waitingFrame (xs (i + 1)) (xs (i + 2)) J _) (F := fun J => J) h (fun J hJ => Y_waitingFrame (nd := xs (i + 1)) (x := xs (i + 2)) hJ)
  refine L_aload_n hC (pc1 := 940) 2 dL_939 rfl rfl ?_
  refine L_aload_n hC (pc1 := 941) 0 dL_940 rfl rfl ?_
  refine L_iload_n hC (pc1 := 942) 3 dL_941 rfl rfl ?_
  refine L_iconst hC (pc1 := 943) dL_942 vc_1 rfl ?_
  refine L_iadd hC (pc1 := 944) dL_943 rfl ?_
  refine L_sld hC (pc1 := 945) (i + 1) (nI_add i 1) (by omega) hn dL_944 rfl ?_
  refine L_aload_n hC (pc1 := 946) 0 dL_945 rfl rfl ?_
  refine L_iload_n hC (pc1 := 947) 3 dL_946 rfl rfl ?_
  refine L_iconst hC (pc1 := 948) dL_947 vc_2 rfl ?_
  refine L_iadd hC (pc1 := 949) dL_948 rfl ?_
  refine L_sld hC (pc1 := 950) (i + 2) (nI_add i 2) (by omega) hn dL_949 rfl ?_
  refine L_vi hC (pc1 := 953) (w11_waitingFrame g (xs (i + 1)) (xs (i + 2)) _ _ hj.rv) ly296 (lt305 rfl) s11_waitingFrame lL_114 rfl rfl ⟨Nat.le_of_ble_eq_true rfl, Nat.le_of_ble_eq_true rfl, hk, hs⟩ (Nat.le_of_ble_eq_true rfl) rfl dL_950 rfl ?_
  exact L_icmp_eq hC (tgt := 1649) (pc1 := 956) dL_953 (by decide) rfl (fun _ => cont _ _ hN) (fun q => absurd eR q)
theorem cs_24 (hC : cL g K n xs) (hn : n ≤ 3072) {i b : Nat} (hi : i + 6 ≤ n) (hb : b < 2 ^ 26) (hk : kc ≤ 600000) (hs : ks ≤ 7302250) (h : REL b I L I) (cont : ∀ I' L', REL (b + 1000) I' L' I' → VL g K kc ks 1649 (lvL g K i) [] (I', L', R0, 305)) : VL g K kc ks 958 (lvL g K i) [] (I, L, R0, 305) := by
  refine L_aload_n hC (pc1 := 959) 1 dL_958 rfl rfl ?_
  refine L_aload_n hC (pc1 := 960) 0 dL_959 rfl rfl ?_
  refine L_iload_n hC (pc1 := 961) 3 dL_960 rfl rfl ?_
  refine L_iconst hC (pc1 := 962) dL_961 vc_1 rfl ?_
  refine L_iadd hC (pc1 := 963) dL_962 rfl ?_
  refine L_sld hC (pc1 := 964) (i + 1) (nI_add i 1) (by omega) hn dL_963 rfl ?_
  refine L_vi hC (pc1 := 967) (w10_received g (xs (i + 1)) I L) ly0 (lt305 rfl) s10_received lL_115 rfl rfl ⟨Nat.le_of_ble_eq_true rfl, Nat.le_of_ble_eq_true rfl, hk, hs⟩ (Nat.le_of_ble_eq_true rfl) rfl dL_964 rfl ?_
  obtain ⟨eR, hj, hN⟩ := OK2.join (R := fun J => r11_received (xs (i + 1)) J _) (F := fun J => J) h (fun J hJ => Y_received (nd := xs (i + 1)) hJ)
  refine L_aload_n hC (pc1 := 968) 2 dL_967 rfl rfl ?_
  refine L_aload_n hC (pc1 := 969) 0 dL_968 rfl rfl ?_
  refine L_iload_n hC (pc1 := 970) 3 dL_969 rfl rfl ?_
  refine L_iconst hC (pc1 := 971) dL_970 vc_1 rfl ?_
  refine L_iadd hC (pc1 := 972) dL_971 rfl ?_
  refine L_sld hC (pc1 := 973) (i + 1) (nI_add i 1) (by omega) hn dL_972 rfl ?_
  refine L_vi hC (pc1 := 976) (w11_received g (xs (i + 1)) _ _) ly296 (lt305 rfl) s11_received lL_118 rfl rfl ⟨Nat.le_of_ble_eq_true rfl, Nat.le_of_ble_eq_true rfl, hk, hs⟩ (Nat.le_of_ble_eq_true rfl) rfl dL_973 rfl ?_
  exact L_icmp_eq hC (tgt := 1649) (pc1 := 979) dL_976 (by decide) rfl (fun _ => cont _ _ hN) (fun q => absurd eR q)
theorem cs_25 (hC : cL g K n xs) (hn : n ≤ 3072) {i b : Nat} (hi : i + 6 ≤ n) (hb : b < 2 ^ 26) (hk : kc ≤ 600000) (hs : ks ≤ 7302250) (h : REL b I L I) (cont : ∀ I' L', REL (b + 1000) I' L' I' → VL g K kc ks 1649 (lvL g K i) [] (I', L', R0, 305)) : VL g K kc ks 981 (lvL g K i) [] (I, L, R0, 305) := by
  refine L_aload_n hC (pc1 := 982) 1 dL_981 rfl rfl ?_
  refine L_aload_n hC (pc1 := 983) 0 dL_982 rfl rfl ?_
  refine L_iload_n hC (pc1 := 984) 3 dL_983 rfl rfl ?_
  refine L_iconst hC (pc1 := 985) dL_984 vc_1 rfl ?_
  refine L_iadd hC (pc1 := 986) dL_985 rfl ?_
  refine L_sld hC (pc1 := 987) (i + 1) (nI_add i 1) (by omega) hn dL_986 rfl ?_
  refine L_aload_n hC (pc1 := 988) 0 dL_987 rfl rfl ?_
  refine L_iload_n hC (pc1 := 989) 3 dL_988 rfl rfl ?_
  refine L_iconst hC (pc1 := 990) dL_989 vc_2 rfl ?_
  refine L_iadd hC (pc1 := 991) dL_990 rfl ?_
  refine L_sld hC (pc1 := 992) (i + 2) (nI_add i 2) (by omega) hn dL_991 rfl ?_
  refine L_vi hC (pc1 := 995) (w10_receivedFrame g (xs (i + 1)) (xs (i + 2)) I L h.cv) ly0 (lt305 rfl) s10_receivedFrame lL_119 rfl rfl ⟨Nat.le_of_ble_eq_true rfl, Nat.le_of_ble_eq_true rfl, hk, hs⟩ (Nat.le_of_ble_eq_true rfl) rfl dL_992 rfl ?_
  obtain ⟨eR, hj, hN⟩ := OK2.join (R := fun J => r11_receivedFrame (xs (i + 1)) (xs (i + 2)) J _) (F := fun J => J) h (fun J hJ => Y_receivedFrame (nd := xs (i + 1)) (x := xs (i + 2)) hJ)
  refine L_aload_n hC (pc1 := 996) 2 dL_995 rfl rfl ?_
  refine L_aload_n hC (pc1 := 997) 0 dL_996 rfl rfl ?_
  refine L_iload_n hC (pc1 := 998) 3 dL_997 rfl rfl ?_
  refine L_iconst hC (pc1 := 999) dL_998 vc_1 rfl ?_
  refine L_iadd hC (pc1 := 1000) dL_999 rfl ?_
  refine L_sld hC (pc1 := 1001) (i + 1) (nI_add i 1) (by omega) hn dL_1000 rfl ?_
  refine L_aload_n hC (pc1 := 1002) 0 dL_1001 rfl rfl ?_
  refine L_iload_n hC (pc1 := 1003) 3 dL_1002 rfl rfl ?_
  refine L_iconst hC (pc1 := 1004) dL_1003 vc_2 rfl ?_
  refine L_iadd hC (pc1 := 1005) dL_1004 rfl ?_
  refine L_sld hC (pc1 := 1006) (i + 2) (nI_add i 2) (by omega) hn dL_1005 rfl ?_
  refine L_vi hC (pc1 := 1009) (w11_receivedFrame g (xs (i + 1)) (xs (i + 2)) _ _ hj.rv) ly296 (lt305 rfl) s11_receivedFrame lL_122 rfl rfl ⟨Nat.le_of_ble_eq_true rfl, Nat.le_of_ble_eq_true rfl, hk, hs⟩ (Nat.le_of_ble_eq_true rfl) rfl dL_1006 rfl ?_
  exact L_icmp_eq hC (tgt := 1649) (pc1 := 1012) dL_1009 (by decide) rfl (fun _ => cont _ _ hN) (fun q => absurd eR q)
theorem cs_26 (hC : cL g K n xs) (hn : n ≤ 3072) {i b : Nat} (hi : i + 6 ≤ n) (hb : b < 2 ^ 26) (hk : kc ≤ 600000) (hs : ks ≤ 7302250) (h : REL b I L I) (cont : ∀ I' L', REL (b + 1000) I' L' I' → VL g K kc ks 1649 (lvL g K i) [] (I', L', R0, 305)) : VL g K kc ks 1014 (lvL g K i) [] (I, L, R0, 305) := by
  refine L_aload_n hC (pc1 := 1015) 1 dL_1014 rfl rfl ?_
  refine L_aload_n hC (pc1 := 1016) 0 dL_1015 rfl rfl ?_
  refine L_iload_n hC (pc1 := 1017) 3 dL_1016 rfl rfl ?_
  refine L_iconst hC (pc1 := 1018) dL_1017 vc_1 rfl ?_
  refine L_iadd hC (pc1 := 1019) dL_1018 rfl ?_
  refine L_sld hC (pc1 := 1020) (i + 1) (nI_add i 1) (by omega) hn dL_1019 rfl ?_
  refine L_aload_n hC (pc1 := 1021) 0 dL_1020 rfl rfl ?_
  refine L_iload_n hC (pc1 := 1022) 3 dL_1021 rfl rfl ?_
  refine L_iconst hC (pc1 := 1023) dL_1022 vc_2 rfl ?_
  refine L_iadd hC (pc1 := 1024) dL_1023 rfl ?_
  refine L_sld hC (pc1 := 1025) (i + 2) (nI_add i 2) (by omega) hn dL_1024 rfl ?_
  refine L_vi hC (pc1 := 1028) (w10_receivedLength g (xs (i + 1)) (xs (i + 2)) I L h.cv) ly0 (lt305 rfl) s10_receivedLength lL_123 rfl rfl ⟨Nat.le_of_ble_eq_true rfl, Nat.le_of_ble_eq_true rfl, hk, hs⟩ (Nat.le_of_ble_eq_true rfl) rfl dL_1025 rfl ?_
  obtain ⟨eR, hj, hN⟩ := OK2.join (R := fun J => r11_receivedLength (xs (i + 1)) (xs (i + 2)) J _) (F := fun J => J) h (fun J hJ => Y_receivedLength (nd := xs (i + 1)) (x := xs (i + 2)) hJ)
  refine L_aload_n hC (pc1 := 1029) 2 dL_1028 rfl rfl ?_
  refine L_aload_n hC (pc1 := 1030) 0 dL_1029 rfl rfl ?_
  refine L_iload_n hC (pc1 := 1031) 3 dL_1030 rfl rfl ?_
  refine L_iconst hC (pc1 := 1032) dL_1031 vc_1 rfl ?_
  refine L_iadd hC (pc1 := 1033) dL_1032 rfl ?_
  refine L_sld hC (pc1 := 1034) (i + 1) (nI_add i 1) (by omega) hn dL_1033 rfl ?_
  refine L_aload_n hC (pc1 := 1035) 0 dL_1034 rfl rfl ?_
  refine L_iload_n hC (pc1 := 1036) 3 dL_1035 rfl rfl ?_
  refine L_iconst hC (pc1 := 1037) dL_1036 vc_2 rfl ?_
  refine L_iadd hC (pc1 := 1038) dL_1037 rfl ?_
  refine L_sld hC (pc1 := 1039) (i + 2) (nI_add i 2) (by omega) hn dL_1038 rfl ?_
  refine L_vi hC (pc1 := 1042) (w11_receivedLength g (xs (i + 1)) (xs (i + 2)) _ _ hj.rv) ly296 (lt305 rfl) s11_receivedLength lL_126 rfl rfl ⟨Nat.le_of_ble_eq_true rfl, Nat.le_of_ble_eq_true rfl, hk, hs⟩ (Nat.le_of_ble_eq_true rfl) rfl dL_1039 rfl ?_
  exact L_icmp_eq hC (tgt := 1649) (pc1 := 1045) dL_1042 (by decide) rfl (fun _ => cont _ _ hN) (fun q => absurd eR q)
theorem cs_27 (hC : cL g K n xs) (hn : n ≤ 3072) {i b : Nat} (hi : i + 6 ≤ n) (hb : b < 2 ^ 26) (hk : kc ≤ 600000) (hs : ks ≤ 7302250) (h : REL b I L I) (cont : ∀ I' L', REL (b + 1000) I' L' I' → VL g K kc ks 1649 (lvL g K i) [] (I', L', R0, 305)) : VL g K kc ks 1047 (lvL g K i) [] (I, L, R0, 305) := by
  refine L_aload_n hC (pc1 := 1048) 1 dL_1047 rfl rfl ?_
  refine L_aload_n hC (pc1 := 1049) 0 dL_1048 rfl rfl ?_
  refine L_iload_n hC (pc1 := 1050) 3 dL_1049 rfl rfl ?_
  refine L_iconst hC (pc1 := 1051) dL_1050 vc_1 rfl ?_
  refine L_iadd hC (pc1 := 1052) dL_1051 rfl ?_
  refine L_sld hC (pc1 := 1053) (i + 1) (nI_add i 1) (by omega) hn dL_1052 rfl ?_
  refine L_aload_n hC (pc1 := 1054) 0 dL_1053 rfl rfl ?_
  refine L_iload_n hC (pc1 := 1055) 3 dL_1054 rfl rfl ?_
  refine L_iconst hC (pc1 := 1056) dL_1055 vc_2 rfl ?_
  refine L_iadd hC (pc1 := 1057) dL_1056 rfl ?_
  refine L_sld hC (pc1 := 1058) (i + 2) (nI_add i 2) (by omega) hn dL_1057 rfl ?_
  refine L_vi hC (pc1 := 1061) (w10_receivedData g (xs (i + 1)) (xs (i + 2)) I L h.cv) ly0 (lt305 rfl) s10_receivedData lL_127 rfl rfl ⟨Nat.le_of_ble_eq_true rfl, Nat.le_of_ble_eq_true rfl, hk, hs⟩ (Nat.le_of_ble_eq_true rfl) rfl dL_1058 rfl ?_
  obtain ⟨eR, hj, hN⟩ := OK2.join (R := fun J => r11_receivedData (xs (i + 1)) (xs (i + 2)) J _) (F := fun J => J) h (fun J hJ => Y_receivedData (nd := xs (i + 1)) (x := xs (i + 2)) hJ)
  refine L_aload_n hC (pc1 := 1062) 2 dL_1061 rfl rfl ?_
  refine L_aload_n hC (pc1 := 1063) 0 dL_1062 rfl rfl ?_
  refine L_iload_n hC (pc1 := 1064) 3 dL_1063 rfl rfl ?_
  refine L_iconst hC (pc1 := 1065) dL_1064 vc_1 rfl ?_
  refine L_iadd hC (pc1 := 1066) dL_1065 rfl ?_
  refine L_sld hC (pc1 := 1067) (i + 1) (nI_add i 1) (by omega) hn dL_1066 rfl ?_
  refine L_aload_n hC (pc1 := 1068) 0 dL_1067 rfl rfl ?_
  refine L_iload_n hC (pc1 := 1069) 3 dL_1068 rfl rfl ?_
  refine L_iconst hC (pc1 := 1070) dL_1069 vc_2 rfl ?_
  refine L_iadd hC (pc1 := 1071) dL_1070 rfl ?_
  refine L_sld hC (pc1 := 1072) (i + 2) (nI_add i 2) (by omega) hn dL_1071 rfl ?_
  refine L_vi hC (pc1 := 1075) (w11_receivedData g (xs (i + 1)) (xs (i + 2)) _ _ hj.rv) ly296 (lt305 rfl) s11_receivedData lL_130 rfl rfl ⟨Nat.le_of_ble_eq_true rfl, Nat.le_of_ble_eq_true rfl, hk, hs⟩ (Nat.le_of_ble_eq_true rfl) rfl dL_1072 rfl ?_
  exact L_icmp_eq hC (tgt := 1649) (pc1 := 1078) dL_1075 (by decide) rfl (fun _ => cont _ _ hN) (fun q => absurd eR q)
theorem cs_28 (hC : cL g K n xs) (hn : n ≤ 3072) {i b : Nat} (hi : i + 6 ≤ n) (hb : b < 2 ^ 26) (hk : kc ≤ 600000) (hs : ks ≤ 7302250) (h : REL b I L I) (cont : ∀ I' L', REL (b + 1000) I' L' I' → VL g K kc ks 1649 (lvL g K i) [] (I', L', R0, 305)) : VL g K kc ks 1080 (lvL g K i) [] (I, L, R0, 305) := by
  refine L_aload_n hC (pc1 := 1081) 1 dL_1080 rfl rfl ?_
  refine L_aload_n hC (pc1 := 1082) 0 dL_1081 rfl rfl ?_
  refine L_iload_n hC (pc1 := 1083) 3 dL_1082 rfl rfl ?_
  refine L_iconst hC (pc1 := 1084) dL_1083 vc_1 rfl ?_
  refine L_iadd hC (pc1 := 1085) dL_1084 rfl ?_
  refine L_sld hC (pc1 := 1086) (i + 1) (nI_add i 1) (by omega) hn dL_1085 rfl ?_
  refine L_vi hC (pc1 := 1089) (w10_discard g (xs (i + 1)) I L h.cv) ly0 (lt305 rfl) s10_discard lL_131 rfl rfl ⟨Nat.le_of_ble_eq_true rfl, Nat.le_of_ble_eq_true rfl, hk, hs⟩ (Nat.le_of_ble_eq_true rfl) rfl dL_1086 rfl ?_
  obtain ⟨eR, hj, hN⟩ := OK2.join (R := fun J => r11_discard (xs (i + 1)) J _) (F := fun J => i11_discard (xs (i + 1)) J _) h (fun J hJ => Y_discard (nd := xs (i + 1)) hJ)
  refine L_aload_n hC (pc1 := 1090) 2 dL_1089 rfl rfl ?_
  refine L_aload_n hC (pc1 := 1091) 0 dL_1090 rfl rfl ?_
  refine L_iload_n hC (pc1 := 1092) 3 dL_1091 rfl rfl ?_
  refine L_iconst hC (pc1 := 1093) dL_1092 vc_1 rfl ?_
  refine L_iadd hC (pc1 := 1094) dL_1093 rfl ?_
  refine L_sld hC (pc1 := 1095) (i + 1) (nI_add i 1) (by omega) hn dL_1094 rfl ?_
  refine L_vi hC (pc1 := 1098) (w11_discard g (xs (i + 1)) _ _ hj.rv) ly296 (lt305 rfl) s11_discard lL_134 rfl rfl ⟨Nat.le_of_ble_eq_true rfl, Nat.le_of_ble_eq_true rfl, hk, hs⟩ (Nat.le_of_ble_eq_true rfl) rfl dL_1095 rfl ?_
  exact L_icmp_eq hC (tgt := 1649) (pc1 := 1101) dL_1098 (by decide) rfl (fun _ => cont _ _ hN) (fun q => absurd eR q)
theorem cs_29 (hC : cL g K n xs) (hn : n ≤ 3072) {i b : Nat} (hi : i + 6 ≤ n) (hb : b < 2 ^ 26) (hk : kc ≤ 600000) (hs : ks ≤ 7302250) (h : REL b I L I) (cont : ∀ I' L', REL (b + 1000) I' L' I' → VL g K kc ks 1649 (lvL g K i) [] (I', L', R0, 305)) : VL g K kc ks 1103 (lvL g K i) [] (I, L, R0, 305) := by
  refine L_aload_n hC (pc1 := 1104) 1 dL_1103 rfl rfl ?_
  refine L_vi hC (pc1 := 1107) (w10_time g I L) ly0 (lt305 rfl) s10_time lL_135 rfl rfl ⟨Nat.le_of_ble_eq_true rfl, Nat.le_of_ble_eq_true rfl, hk, hs⟩ (Nat.le_of_ble_eq_true rfl) rfl dL_1104 rfl ?_
  obtain ⟨eR, hj, hN⟩ := OK2.join (R := fun J => r11_time  J _) (F := fun J => J) h (fun J hJ => Y_time  hJ)
  refine L_aload_n hC (pc1 := 1108) 2 dL_1107 rfl rfl ?_
  refine L_vi hC (pc1 := 1111) (w11_time g _ _) ly296 (lt305 rfl) s11_time lL_138 rfl rfl ⟨Nat.le_of_ble_eq_true rfl, Nat.le_of_ble_eq_true rfl, hk, hs⟩ (Nat.le_of_ble_eq_true rfl) rfl dL_1108 rfl ?_
  exact L_icmp_eq hC (tgt := 1649) (pc1 := 1114) dL_1111 (by decide) rfl (fun _ => cont _ _ hN) (fun q => absurd eR q)
theorem cs_30 (hC : cL g K n xs) (hn : n ≤ 3072) {i b : Nat} (hi : i + 6 ≤ n) (hb : b < 2 ^ 26) (hk : kc ≤ 600000) (hs : ks ≤ 7302250) (h : REL b I L I) (cont : ∀ I' L', REL (b + 1000) I' L' I' → VL g K kc ks 1649 (lvL g K i) [] (I', L', R0, 305)) : VL g K kc ks 1116 (lvL g K i) [] (I, L, R0, 305) := by
  refine L_aload_n hC (pc1 := 1117) 1 dL_1116 rfl rfl ?_
  refine L_aload_n hC (pc1 := 1118) 0 dL_1117 rfl rfl ?_
  refine L_iload_n hC (pc1 := 1119) 3 dL_1118 rfl rfl ?_
  refine L_iconst hC (pc1 := 1120) dL_1119 vc_1 rfl ?_
  refine L_iadd hC (pc1 := 1121) dL_1120 rfl ?_
  refine L_sld hC (pc1 := 1122) (i + 1) (nI_add i 1) (by omega) hn dL_1121 rfl ?_
  refine L_vi hC (pc1 := 1125) (w10_level g (xs (i + 1)) I L) ly0 (lt305 rfl) s10_level lL_139 rfl rfl ⟨Nat.le_of_ble_eq_true rfl, Nat.le_of_ble_eq_true rfl, hk, hs⟩ (Nat.le_of_ble_eq_true rfl) rfl dL_1122 rfl ?_
  obtain ⟨eR, hj, hN⟩ := OK2.join (R := fun J => r11_level (xs (i + 1)) J _) (F := fun J => J) h (fun J hJ => Y_level (x := xs (i + 1)) hb hJ)
  refine L_aload_n hC (pc1 := 1126) 2 dL_1125 rfl rfl ?_
  refine L_aload_n hC (pc1 := 1127) 0 dL_1126 rfl rfl ?_
  refine L_iload_n hC (pc1 := 1128) 3 dL_1127 rfl rfl ?_
  refine L_iconst hC (pc1 := 1129) dL_1128 vc_1 rfl ?_
  refine L_iadd hC (pc1 := 1130) dL_1129 rfl ?_
  refine L_sld hC (pc1 := 1131) (i + 1) (nI_add i 1) (by omega) hn dL_1130 rfl ?_
  obtain ⟨t, ht9, ht⟩ := hj.rT hb
  refine L_vi hC (pc1 := 1134) (w11_level g (xs (i + 1)) t ht9 _ _ ht) ly296 (lt305 rfl) s11_level lL_142 rfl rfl ⟨Nat.le_of_ble_eq_true rfl, Nat.le_of_ble_eq_true rfl, hk, hs⟩ (Nat.le_of_ble_eq_true rfl) rfl dL_1131 rfl ?_
  exact L_icmp_eq hC (tgt := 1649) (pc1 := 1137) dL_1134 (by decide) rfl (fun _ => cont _ _ hN) (fun q => absurd eR q)
theorem cs_31 (hC : cL g K n xs) (hn : n ≤ 3072) {i b : Nat} (hi : i + 6 ≤ n) (hb : b < 2 ^ 26) (hk : kc ≤ 600000) (hs : ks ≤ 7302250) (h : REL b I L I) (cont : ∀ I' L', REL (b + 1000) I' L' I' → VL g K kc ks 1649 (lvL g K i) [] (I', L', R0, 305)) : VL g K kc ks 1139 (lvL g K i) [] (I, L, R0, 305) := by
  refine L_aload_n hC (pc1 := 1140) 1 dL_1139 rfl rfl ?_
  refine L_vi hC (pc1 := 1143) (w10_winner g I L h.cv) ly0 (lt305 rfl) s10_winner lL_143 rfl rfl ⟨Nat.le_of_ble_eq_true rfl, Nat.le_of_ble_eq_true rfl, hk, hs⟩ (Nat.le_of_ble_eq_true rfl) rfl dL_1140 rfl ?_
  obtain ⟨eR, hj, hN⟩ := OK2.join (R := fun J => r11_winner  J _) (F := fun J => J) h (fun J hJ => Y_winner  hJ)
  refine L_aload_n hC (pc1 := 1144) 2 dL_1143 rfl rfl ?_
  refine L_vi hC (pc1 := 1147) (w11_winner g _ _) ly296 (lt305 rfl) s11_winner lL_146 rfl rfl ⟨Nat.le_of_ble_eq_true rfl, Nat.le_of_ble_eq_true rfl, hk, hs⟩ (Nat.le_of_ble_eq_true rfl) rfl dL_1144 rfl ?_
  exact L_icmp_eq hC (tgt := 1649) (pc1 := 1150) dL_1147 (by decide) rfl (fun _ => cont _ _ hN) (fun q => absurd eR q)
theorem cs_32 (hC : cL g K n xs) (hn : n ≤ 3072) {i b : Nat} (hi : i + 6 ≤ n) (hb : b < 2 ^ 26) (hk : kc ≤ 600000) (hs : ks ≤ 7302250) (h : REL b I L I) (cont : ∀ I' L', REL (b + 1000) I' L' I' → VL g K kc ks 1649 (lvL g K i) [] (I', L', R0, 305)) : VL g K kc ks 1152 (lvL g K i) [] (I, L, R0, 305) := by
  refine L_aload_n hC (pc1 := 1153) 1 dL_1152 rfl rfl ?_
  refine L_aload_n hC (pc1 := 1154) 0 dL_1153 rfl rfl ?_
  refine L_iload_n hC (pc1 := 1155) 3 dL_1154 rfl rfl ?_
  refine L_iconst hC (pc1 := 1156) dL_1155 vc_1 rfl ?_
  refine L_iadd hC (pc1 := 1157) dL_1156 rfl ?_
  refine L_sld hC (pc1 := 1158) (i + 1) (nI_add i 1) (by omega) hn dL_1157 rfl ?_
  refine L_vi hC (pc1 := 1161) (w10_bitsUntilSent g (xs (i + 1)) I L h.cv h.cb) ly0 (lt305 rfl) s10_bitsUntilSent lL_147 rfl rfl ⟨Nat.le_of_ble_eq_true rfl, Nat.le_of_ble_eq_true rfl, hk, hs⟩ (Nat.le_of_ble_eq_true rfl) rfl dL_1158 rfl ?_
  obtain ⟨eR, hj, hN⟩ := OK2.join (R := fun J => r11_bitsUntilSent (xs (i + 1)) J _) (F := fun J => i11_bitsUntilSent (xs (i + 1)) J _) h (fun J hJ => Y_bitsUntilSent (nd := xs (i + 1)) hb hJ)
  refine L_aload_n hC (pc1 := 1162) 2 dL_1161 rfl rfl ?_
  refine L_aload_n hC (pc1 := 1163) 0 dL_1162 rfl rfl ?_
  refine L_iload_n hC (pc1 := 1164) 3 dL_1163 rfl rfl ?_
  refine L_iconst hC (pc1 := 1165) dL_1164 vc_1 rfl ?_
  refine L_iadd hC (pc1 := 1166) dL_1165 rfl ?_
  refine L_sld hC (pc1 := 1167) (i + 1) (nI_add i 1) (by omega) hn dL_1166 rfl ?_
  refine L_vi hC (pc1 := 1170) (w11_bitsUntilSent g (xs (i + 1)) b hb _ _ hj.rb) ly296 (lt305 rfl) s11_bitsUntilSent lL_150 rfl rfl ⟨Nat.le_of_ble_eq_true rfl, Nat.le_of_ble_eq_true rfl, hk, hs⟩ (Nat.le_of_ble_eq_true rfl) rfl dL_1167 rfl ?_
  exact L_icmp_eq hC (tgt := 1649) (pc1 := 1173) dL_1170 (by decide) rfl (fun _ => cont _ _ hN) (fun q => absurd eR q)
theorem cs_33 (hC : cL g K n xs) (hn : n ≤ 3072) {i b : Nat} (hi : i + 6 ≤ n) (hb : b < 2 ^ 26) (hk : kc ≤ 600000) (hs : ks ≤ 7302250) (h : REL b I L I) (cont : ∀ I' L', REL (b + 1000) I' L' I' → VL g K kc ks 1649 (lvL g K i) [] (I', L', R0, 305)) : VL g K kc ks 1175 (lvL g K i) [] (I, L, R0, 305) := by
  refine L_aload_n hC (pc1 := 1176) 1 dL_1175 rfl rfl ?_
  refine L_aload_n hC (pc1 := 1177) 0 dL_1176 rfl rfl ?_
  refine L_iload_n hC (pc1 := 1178) 3 dL_1177 rfl rfl ?_
  refine L_iconst hC (pc1 := 1179) dL_1178 vc_1 rfl ?_
  refine L_iadd hC (pc1 := 1180) dL_1179 rfl ?_
  refine L_sld hC (pc1 := 1181) (i + 1) (nI_add i 1) (by omega) hn dL_1180 rfl ?_
  refine L_aload_n hC (pc1 := 1182) 0 dL_1181 rfl rfl ?_
  refine L_iload_n hC (pc1 := 1183) 3 dL_1182 rfl rfl ?_
  refine L_iconst hC (pc1 := 1184) dL_1183 vc_2 rfl ?_
  refine L_iadd hC (pc1 := 1185) dL_1184 rfl ?_
  refine L_sld hC (pc1 := 1186) (i + 2) (nI_add i 2) (by omega) hn dL_1185 rfl ?_
  refine L_b hC (p3 := 1193) (tgt := 1194) (p1 := 1189) (p2 := 1190) dL_1186 (by decide) rfl dL_1189 rfl dL_1190 (by decide) dL_1193 rfl ?_
  refine L_aload_n hC (pc1 := 1195) 0 dL_1194 rfl rfl ?_
  refine L_iload_n hC (pc1 := 1196) 3 dL_1195 rfl rfl ?_
  refine L_iconst hC (pc1 := 1197) dL_1196 vc_3 rfl ?_
  refine L_iadd hC (pc1 := 1198) dL_1197 rfl ?_
  refine L_sld hC (pc1 := 1199) (i + 3) (nI_add i 3) (by omega) hn dL_1198 rfl ?_
  refine L_aload_n hC (pc1 := 1200) 0 dL_1199 rfl rfl ?_
  refine L_iload_n hC (pc1 := 1201) 3 dL_1200 rfl rfl ?_
  refine L_iconst hC (pc1 := 1202) dL_1201 vc_4 rfl ?_
  refine L_iadd hC (pc1 := 1203) dL_1202 rfl ?_
  refine L_sld hC (pc1 := 1204) (i + 4) (nI_add i 4) (by omega) hn dL_1203 rfl ?_
  refine L_vi hC (pc1 := 1207) (w10_crc g (xs (i + 1)) (bI (if xs (i + 2) = 0 then false else true)) (xs (i + 3)) (xs (i + 4)) I L) ly0 (lt305 rfl) s10_crc lL_151 rfl rfl ⟨Nat.le_of_ble_eq_true rfl, Nat.le_of_ble_eq_true rfl, hk, hs⟩ (Nat.le_of_ble_eq_true rfl) rfl dL_1204 rfl ?_
  obtain ⟨eR, hj, hN⟩ := OK2.join (R := fun J => r11_crc (xs (i + 1)) (bI (if xs (i + 2) = 0 then false else true)) (xs (i + 3)) (xs (i + 4)) J _) (F := fun J => i11_crc (xs (i + 1)) (bI (if xs (i + 2) = 0 then false else true)) (xs (i + 3)) (xs (i + 4)) J _) h (fun J hJ => Y_crc (a1 := xs (i + 1)) (a2 := bI (if xs (i + 2) = 0 then false else true)) (a3 := xs (i + 3)) (a4 := xs (i + 4)) hJ)
  refine L_aload_n hC (pc1 := 1208) 2 dL_1207 rfl rfl ?_
  refine L_aload_n hC (pc1 := 1209) 0 dL_1208 rfl rfl ?_
  refine L_iload_n hC (pc1 := 1210) 3 dL_1209 rfl rfl ?_
  refine L_iconst hC (pc1 := 1211) dL_1210 vc_1 rfl ?_
  refine L_iadd hC (pc1 := 1212) dL_1211 rfl ?_
  refine L_sld hC (pc1 := 1213) (i + 1) (nI_add i 1) (by omega) hn dL_1212 rfl ?_
  refine L_aload_n hC (pc1 := 1214) 0 dL_1213 rfl rfl ?_
  refine L_iload_n hC (pc1 := 1215) 3 dL_1214 rfl rfl ?_
  refine L_iconst hC (pc1 := 1216) dL_1215 vc_2 rfl ?_
  refine L_iadd hC (pc1 := 1217) dL_1216 rfl ?_
  refine L_sld hC (pc1 := 1218) (i + 2) (nI_add i 2) (by omega) hn dL_1217 rfl ?_
  refine L_b hC (p3 := 1225) (tgt := 1226) (p1 := 1221) (p2 := 1222) dL_1218 (by decide) rfl dL_1221 rfl dL_1222 (by decide) dL_1225 rfl ?_
  refine L_aload_n hC (pc1 := 1227) 0 dL_1226 rfl rfl ?_
  refine L_iload_n hC (pc1 := 1228) 3 dL_1227 rfl rfl ?_
  refine L_iconst hC (pc1 := 1229) dL_1228 vc_3 rfl ?_
  refine L_iadd hC (pc1 := 1230) dL_1229 rfl ?_
  refine L_sld hC (pc1 := 1231) (i + 3) (nI_add i 3) (by omega) hn dL_1230 rfl ?_
  refine L_aload_n hC (pc1 := 1232) 0 dL_1231 rfl rfl ?_
  refine L_iload_n hC (pc1 := 1233) 3 dL_1232 rfl rfl ?_
  refine L_iconst hC (pc1 := 1234) dL_1233 vc_4 rfl ?_
  refine L_iadd hC (pc1 := 1235) dL_1234 rfl ?_
  refine L_sld hC (pc1 := 1236) (i + 4) (nI_add i 4) (by omega) hn dL_1235 rfl ?_
  refine L_vi hC (pc1 := 1239) (w11_crc g (xs (i + 1)) (bI (if xs (i + 2) = 0 then false else true)) (xs (i + 3)) (xs (i + 4)) _ _) ly296 (lt305 rfl) s11_crc lL_155 rfl rfl ⟨Nat.le_of_ble_eq_true rfl, Nat.le_of_ble_eq_true rfl, hk, hs⟩ (Nat.le_of_ble_eq_true rfl) rfl dL_1236 rfl ?_
  exact L_icmp_eq hC (tgt := 1649) (pc1 := 1242) dL_1239 (by decide) rfl (fun _ => cont _ _ hN) (fun q => absurd eR q)
theorem cs_34 (hC : cL g K n xs) (hn : n ≤ 3072) {i b : Nat} (hi : i + 6 ≤ n) (hb : b < 2 ^ 26) (hk : kc ≤ 600000) (hs : ks ≤ 7302250) (h : REL b I L I) (cont : ∀ I' L', REL (b + 1000) I' L' I' → VL g K kc ks 1649 (lvL g K i) [] (I', L', R0, 305)) : VL g K kc ks 1244 (lvL g K i) [] (I, L, R0, 305) := by
  refine L_aload_n hC (pc1 := 1245) 1 dL_1244 rfl rfl ?_
  refine L_aload_n hC (pc1 := 1246) 0 dL_1245 rfl rfl ?_
  refine L_iload_n hC (pc1 := 1247) 3 dL_1246 rfl rfl ?_
  refine L_iconst hC (pc1 := 1248) dL_1247 vc_1 rfl ?_
  refine L_iadd hC (pc1 := 1249) dL_1248 rfl ?_
  refine L_sld hC (pc1 := 1250) (i + 1) (nI_add i 1) (by omega) hn dL_1249 rfl ?_
  refine L_aload_n hC (pc1 := 1251) 0 dL_1250 rfl rfl ?_
  refine L_iload_n hC (pc1 := 1252) 3 dL_1251 rfl rfl ?_
  refine L_iconst hC (pc1 := 1253) dL_1252 vc_2 rfl ?_
  refine L_iadd hC (pc1 := 1254) dL_1253 rfl ?_
  refine L_sld hC (pc1 := 1255) (i + 2) (nI_add i 2) (by omega) hn dL_1254 rfl ?_
  refine L_b hC (p3 := 1262) (tgt := 1263) (p1 := 1258) (p2 := 1259) dL_1255 (by decide) rfl dL_1258 rfl dL_1259 (by decide) dL_1262 rfl ?_
  refine L_aload_n hC (pc1 := 1264) 0 dL_1263 rfl rfl ?_
  refine L_iload_n hC (pc1 := 1265) 3 dL_1264 rfl rfl ?_
  refine L_iconst hC (pc1 := 1266) dL_1265 vc_3 rfl ?_
  refine L_iadd hC (pc1 := 1267) dL_1266 rfl ?_
  refine L_sld hC (pc1 := 1268) (i + 3) (nI_add i 3) (by omega) hn dL_1267 rfl ?_
  refine L_aload_n hC (pc1 := 1269) 0 dL_1268 rfl rfl ?_
  refine L_iload_n hC (pc1 := 1270) 3 dL_1269 rfl rfl ?_
  refine L_iconst hC (pc1 := 1271) dL_1270 vc_4 rfl ?_
  refine L_iadd hC (pc1 := 1272) dL_1271 rfl ?_
  refine L_sld hC (pc1 := 1273) (i + 4) (nI_add i 4) (by omega) hn dL_1272 rfl ?_
  refine L_vi hC (pc1 := 1276) (w10_frameBits g (xs (i + 1)) (bI (if xs (i + 2) = 0 then false else true)) (xs (i + 3)) (xs (i + 4)) I L) ly0 (lt305 rfl) s10_frameBits lL_156 rfl rfl ⟨Nat.le_of_ble_eq_true rfl, Nat.le_of_ble_eq_true rfl, hk, hs⟩ (Nat.le_of_ble_eq_true rfl) rfl dL_1273 rfl ?_
  obtain ⟨eR, hj, hN⟩ := OK2.join (R := fun J => r11_frameBits (xs (i + 1)) (bI (if xs (i + 2) = 0 then false else true)) (xs (i + 3)) (xs (i + 4)) J _) (F := fun J => i11_frameBits (xs (i + 1)) (bI (if xs (i + 2) = 0 then false else true)) (xs (i + 3)) (xs (i + 4)) J _) h (fun J hJ => Y_frameBits (a1 := xs (i + 1)) (a2 := bI (if xs (i + 2) = 0 then false else true)) (a3 := xs (i + 3)) (a4 := xs (i + 4)) hJ)
  refine L_aload_n hC (pc1 := 1277) 2 dL_1276 rfl rfl ?_
  refine L_aload_n hC (pc1 := 1278) 0 dL_1277 rfl rfl ?_
  refine L_iload_n hC (pc1 := 1279) 3 dL_1278 rfl rfl ?_
  refine L_iconst hC (pc1 := 1280) dL_1279 vc_1 rfl ?_
  refine L_iadd hC (pc1 := 1281) dL_1280 rfl ?_
  refine L_sld hC (pc1 := 1282) (i + 1) (nI_add i 1) (by omega) hn dL_1281 rfl ?_
  refine L_aload_n hC (pc1 := 1283) 0 dL_1282 rfl rfl ?_
  refine L_iload_n hC (pc1 := 1284) 3 dL_1283 rfl rfl ?_
  refine L_iconst hC (pc1 := 1285) dL_1284 vc_2 rfl ?_
  refine L_iadd hC (pc1 := 1286) dL_1285 rfl ?_
  refine L_sld hC (pc1 := 1287) (i + 2) (nI_add i 2) (by omega) hn dL_1286 rfl ?_
  refine L_b hC (p3 := 1294) (tgt := 1295) (p1 := 1290) (p2 := 1291) dL_1287 (by decide) rfl dL_1290 rfl dL_1291 (by decide) dL_1294 rfl ?_
  refine L_aload_n hC (pc1 := 1296) 0 dL_1295 rfl rfl ?_
  refine L_iload_n hC (pc1 := 1297) 3 dL_1296 rfl rfl ?_
  refine L_iconst hC (pc1 := 1298) dL_1297 vc_3 rfl ?_
  refine L_iadd hC (pc1 := 1299) dL_1298 rfl ?_
  refine L_sld hC (pc1 := 1300) (i + 3) (nI_add i 3) (by omega) hn dL_1299 rfl ?_
  refine L_aload_n hC (pc1 := 1301) 0 dL_1300 rfl rfl ?_
  refine L_iload_n hC (pc1 := 1302) 3 dL_1301 rfl rfl ?_
  refine L_iconst hC (pc1 := 1303) dL_1302 vc_4 rfl ?_
  refine L_iadd hC (pc1 := 1304) dL_1303 rfl ?_
  refine L_sld hC (pc1 := 1305) (i + 4) (nI_add i 4) (by omega) hn dL_1304 rfl ?_
  refine L_vi hC (pc1 := 1308) (w11_frameBits g (xs (i + 1)) (bI (if xs (i + 2) = 0 then false else true)) (xs (i + 3)) (xs (i + 4)) _ _) ly296 (lt305 rfl) s11_frameBits lL_159 rfl rfl ⟨Nat.le_of_ble_eq_true rfl, Nat.le_of_ble_eq_true rfl, hk, hs⟩ (Nat.le_of_ble_eq_true rfl) rfl dL_1305 rfl ?_
  exact L_icmp_eq hC (tgt := 1649) (pc1 := 1311) dL_1308 (by decide) rfl (fun _ => cont _ _ hN) (fun q => absurd eR q)
theorem cs_35 (hC : cL g K n xs) (hn : n ≤ 3072) {i b : Nat} (hi : i + 6 ≤ n) (hb : b < 2 ^ 26) (hk : kc ≤ 600000) (hs : ks ≤ 7302250) (h : REL b I L I) (cont : ∀ I' L', REL (b + 1000) I' L' I' → VL g K kc ks 1649 (lvL g K i) [] (I', L', R0, 305)) : VL g K kc ks 1313 (lvL g K i) [] (I, L, R0, 305) := by
  refine L_aload_n hC (pc1 := 1314) 1 dL_1313 rfl rfl ?_
  refine L_aload_n hC (pc1 := 1315) 0 dL_1314 rfl rfl ?_
  refine L_iload_n hC (pc1 := 1316) 3 dL_1315 rfl rfl ?_
  refine L_iconst hC (pc1 := 1317) dL_1316 vc_1 rfl ?_
  refine L_iadd hC (pc1 := 1318) dL_1317 rfl ?_
  refine L_sld hC (pc1 := 1319) (i + 1) (nI_add i 1) (by omega) hn dL_1318 rfl ?_
  refine L_aload_n hC (pc1 := 1320) 0 dL_1319 rfl rfl ?_
  refine L_iload_n hC (pc1 := 1321) 3 dL_1320 rfl rfl ?_
  refine L_iconst hC (pc1 := 1322) dL_1321 vc_2 rfl ?_
  refine L_iadd hC (pc1 := 1323) dL_1322 rfl ?_
  refine L_sld hC (pc1 := 1324) (i + 2) (nI_add i 2) (by omega) hn dL_1323 rfl ?_
  refine L_b hC (p3 := 1331) (tgt := 1332) (p1 := 1327) (p2 := 1328) dL_1324 (by decide) rfl dL_1327 rfl dL_1328 (by decide) dL_1331 rfl ?_
  refine L_aload_n hC (pc1 := 1333) 0 dL_1332 rfl rfl ?_
  refine L_iload_n hC (pc1 := 1334) 3 dL_1333 rfl rfl ?_
  refine L_iconst hC (pc1 := 1335) dL_1334 vc_3 rfl ?_
  refine L_iadd hC (pc1 := 1336) dL_1335 rfl ?_
  refine L_sld hC (pc1 := 1337) (i + 3) (nI_add i 3) (by omega) hn dL_1336 rfl ?_
  refine L_aload_n hC (pc1 := 1338) 0 dL_1337 rfl rfl ?_
  refine L_iload_n hC (pc1 := 1339) 3 dL_1338 rfl rfl ?_
  refine L_iconst hC (pc1 := 1340) dL_1339 vc_4 rfl ?_
  refine L_iadd hC (pc1 := 1341) dL_1340 rfl ?_
  refine L_sld hC (pc1 := 1342) (i + 4) (nI_add i 4) (by omega) hn dL_1341 rfl ?_
  refine L_aload_n hC (pc1 := 1343) 0 dL_1342 rfl rfl ?_
  refine L_iload_n hC (pc1 := 1344) 3 dL_1343 rfl rfl ?_
  refine L_iconst hC (pc1 := 1345) dL_1344 vc_5 rfl ?_
  refine L_iadd hC (pc1 := 1346) dL_1345 rfl ?_
  refine L_sld hC (pc1 := 1347) (i + 5) (nI_add i 5) (by omega) hn dL_1346 rfl ?_
  refine L_vi hC (pc1 := 1350) (w10_frameBit g (xs (i + 1)) (bI (if xs (i + 2) = 0 then false else true)) (xs (i + 3)) (xs (i + 4)) (xs (i + 5)) I L) ly0 (lt305 rfl) s10_frameBit lL_160 rfl rfl ⟨Nat.le_of_ble_eq_true rfl, Nat.le_of_ble_eq_true rfl, hk, hs⟩ (Nat.le_of_ble_eq_true rfl) rfl dL_1347 rfl ?_
  obtain ⟨eR, hj, hN⟩ := OK2.join (R := fun J => r11_frameBit (xs (i + 1)) (bI (if xs (i + 2) = 0 then false else true)) (xs (i + 3)) (xs (i + 4)) (xs (i + 5)) J _) (F := fun J => i11_frameBit (xs (i + 1)) (bI (if xs (i + 2) = 0 then false else true)) (xs (i + 3)) (xs (i + 4)) (xs (i + 5)) J _) h (fun J hJ => Y_frameBit (a1 := xs (i + 1)) (a2 := bI (if xs (i + 2) = 0 then false else true)) (a3 := xs (i + 3)) (a4 := xs (i + 4)) (x := xs (i + 5)) hJ)
  refine L_aload_n hC (pc1 := 1351) 2 dL_1350 rfl rfl ?_
  refine L_aload_n hC (pc1 := 1352) 0 dL_1351 rfl rfl ?_
  refine L_iload_n hC (pc1 := 1353) 3 dL_1352 rfl rfl ?_
  refine L_iconst hC (pc1 := 1354) dL_1353 vc_1 rfl ?_
  refine L_iadd hC (pc1 := 1355) dL_1354 rfl ?_
  refine L_sld hC (pc1 := 1356) (i + 1) (nI_add i 1) (by omega) hn dL_1355 rfl ?_
  refine L_aload_n hC (pc1 := 1357) 0 dL_1356 rfl rfl ?_
  refine L_iload_n hC (pc1 := 1358) 3 dL_1357 rfl rfl ?_
  refine L_iconst hC (pc1 := 1359) dL_1358 vc_2 rfl ?_
  refine L_iadd hC (pc1 := 1360) dL_1359 rfl ?_
  refine L_sld hC (pc1 := 1361) (i + 2) (nI_add i 2) (by omega) hn dL_1360 rfl ?_
  refine L_b hC (p3 := 1368) (tgt := 1369) (p1 := 1364) (p2 := 1365) dL_1361 (by decide) rfl dL_1364 rfl dL_1365 (by decide) dL_1368 rfl ?_
  refine L_aload_n hC (pc1 := 1370) 0 dL_1369 rfl rfl ?_
  refine L_iload_n hC (pc1 := 1371) 3 dL_1370 rfl rfl ?_
  refine L_iconst hC (pc1 := 1372) dL_1371 vc_3 rfl ?_
  refine L_iadd hC (pc1 := 1373) dL_1372 rfl ?_
  refine L_sld hC (pc1 := 1374) (i + 3) (nI_add i 3) (by omega) hn dL_1373 rfl ?_
  refine L_aload_n hC (pc1 := 1375) 0 dL_1374 rfl rfl ?_
  refine L_iload_n hC (pc1 := 1376) 3 dL_1375 rfl rfl ?_
  refine L_iconst hC (pc1 := 1377) dL_1376 vc_4 rfl ?_
  refine L_iadd hC (pc1 := 1378) dL_1377 rfl ?_
  refine L_sld hC (pc1 := 1379) (i + 4) (nI_add i 4) (by omega) hn dL_1378 rfl ?_
  refine L_aload_n hC (pc1 := 1380) 0 dL_1379 rfl rfl ?_
  refine L_iload_n hC (pc1 := 1381) 3 dL_1380 rfl rfl ?_
  refine L_iconst hC (pc1 := 1382) dL_1381 vc_5 rfl ?_
  refine L_iadd hC (pc1 := 1383) dL_1382 rfl ?_
  refine L_sld hC (pc1 := 1384) (i + 5) (nI_add i 5) (by omega) hn dL_1383 rfl ?_
  refine L_vi hC (pc1 := 1387) (w11_frameBit g (xs (i + 1)) (bI (if xs (i + 2) = 0 then false else true)) (xs (i + 3)) (xs (i + 4)) (xs (i + 5)) _ _) ly296 (lt305 rfl) s11_frameBit lL_164 rfl rfl ⟨Nat.le_of_ble_eq_true rfl, Nat.le_of_ble_eq_true rfl, hk, hs⟩ (Nat.le_of_ble_eq_true rfl) rfl dL_1384 rfl ?_
  exact L_icmp_eq hC (tgt := 1649) (pc1 := 1390) dL_1387 (by decide) rfl (fun _ => cont _ _ hN) (fun q => absurd eR q)
theorem cs_36 (hC : cL g K n xs) (hn : n ≤ 3072) {i b : Nat} (hi : i + 6 ≤ n) (hb : b < 2 ^ 26) (hk : kc ≤ 600000) (hs : ks ≤ 7302250) (h : REL b I L I) (cont : ∀ I' L', REL (b + 1000) I' L' I' → VL g K kc ks 1649 (lvL g K i) [] (I', L', R0, 305)) : VL g K kc ks 1392 (lvL g K i) [] (I, L, R0, 305) := by
  refine L_aload_n hC (pc1 := 1393) 1 dL_1392 rfl rfl ?_
  refine L_aload_n hC (pc1 := 1394) 0 dL_1393 rfl rfl ?_
  refine L_iload_n hC (pc1 := 1395) 3 dL_1394 rfl rfl ?_
  refine L_iconst hC (pc1 := 1396) dL_1395 vc_1 rfl ?_
  refine L_iadd hC (pc1 := 1397) dL_1396 rfl ?_
  refine L_sld hC (pc1 := 1398) (i + 1) (nI_add i 1) (by omega) hn dL_1397 rfl ?_
  refine L_vi hC (pc1 := 1401) (w10_worstBits g (xs (i + 1)) I L) ly0 (lt305 rfl) s10_worstBits lL_165 rfl rfl ⟨Nat.le_of_ble_eq_true rfl, Nat.le_of_ble_eq_true rfl, hk, hs⟩ (Nat.le_of_ble_eq_true rfl) rfl dL_1398 rfl ?_
  obtain ⟨eR, hj, hN⟩ := OK2.join (R := fun J => r11_worstBits (xs (i + 1)) J _) (F := fun J => J) h (fun J hJ => Y_worstBits (x := xs (i + 1)) hJ)
  refine L_aload_n hC (pc1 := 1402) 2 dL_1401 rfl rfl ?_
  refine L_aload_n hC (pc1 := 1403) 0 dL_1402 rfl rfl ?_
  refine L_iload_n hC (pc1 := 1404) 3 dL_1403 rfl rfl ?_
  refine L_iconst hC (pc1 := 1405) dL_1404 vc_1 rfl ?_
  refine L_iadd hC (pc1 := 1406) dL_1405 rfl ?_
  refine L_sld hC (pc1 := 1407) (i + 1) (nI_add i 1) (by omega) hn dL_1406 rfl ?_
  refine L_vi hC (pc1 := 1410) (w11_worstBits g (xs (i + 1)) _ _) ly296 (lt305 rfl) s11_worstBits lL_168 rfl rfl ⟨Nat.le_of_ble_eq_true rfl, Nat.le_of_ble_eq_true rfl, hk, hs⟩ (Nat.le_of_ble_eq_true rfl) rfl dL_1407 rfl ?_
  exact L_icmp_eq hC (tgt := 1649) (pc1 := 1413) dL_1410 (by decide) rfl (fun _ => cont _ _ hN) (fun q => absurd eR q)
theorem cs_37 (hC : cL g K n xs) (hn : n ≤ 3072) {i b : Nat} (hi : i + 6 ≤ n) (hb : b < 2 ^ 26) (hk : kc ≤ 600000) (hs : ks ≤ 7302250) (h : REL b I L I) (cont : ∀ I' L', REL (b + 1000) I' L' I' → VL g K kc ks 1649 (lvL g K i) [] (I', L', R0, 305)) : VL g K kc ks 1415 (lvL g K i) [] (I, L, R0, 305) := by
  refine L_aload_n hC (pc1 := 1416) 1 dL_1415 rfl rfl ?_
  refine L_aload_n hC (pc1 := 1417) 0 dL_1416 rfl rfl ?_
  refine L_iload_n hC (pc1 := 1418) 3 dL_1417 rfl rfl ?_
  refine L_iconst hC (pc1 := 1419) dL_1418 vc_1 rfl ?_
  refine L_iadd hC (pc1 := 1420) dL_1419 rfl ?_
  refine L_sld hC (pc1 := 1421) (i + 1) (nI_add i 1) (by omega) hn dL_1420 rfl ?_
  refine L_aload_n hC (pc1 := 1422) 0 dL_1421 rfl rfl ?_
  refine L_iload_n hC (pc1 := 1423) 3 dL_1422 rfl rfl ?_
  refine L_iconst hC (pc1 := 1424) dL_1423 vc_2 rfl ?_
  refine L_iadd hC (pc1 := 1425) dL_1424 rfl ?_
  refine L_sld hC (pc1 := 1426) (i + 2) (nI_add i 2) (by omega) hn dL_1425 rfl ?_
  refine L_aload_n hC (pc1 := 1427) 0 dL_1426 rfl rfl ?_
  refine L_iload_n hC (pc1 := 1428) 3 dL_1427 rfl rfl ?_
  refine L_iconst hC (pc1 := 1429) dL_1428 vc_3 rfl ?_
  refine L_iadd hC (pc1 := 1430) dL_1429 rfl ?_
  refine L_sld hC (pc1 := 1431) (i + 3) (nI_add i 3) (by omega) hn dL_1430 rfl ?_
  refine L_aload_n hC (pc1 := 1432) 0 dL_1431 rfl rfl ?_
  refine L_iload_n hC (pc1 := 1433) 3 dL_1432 rfl rfl ?_
  refine L_iconst hC (pc1 := 1434) dL_1433 vc_4 rfl ?_
  refine L_iadd hC (pc1 := 1435) dL_1434 rfl ?_
  refine L_sld hC (pc1 := 1436) (i + 4) (nI_add i 4) (by omega) hn dL_1435 rfl ?_
  refine L_vi hC (pc1 := 1439) (w10_addMessage g (xs (i + 1)) (xs (i + 2)) (xs (i + 3)) (xs (i + 4)) I L h.cm) ly0 (lt305 rfl) s10_addMessage lL_169 rfl rfl ⟨Nat.le_of_ble_eq_true rfl, Nat.le_of_ble_eq_true rfl, hk, hs⟩ (Nat.le_of_ble_eq_true rfl) rfl dL_1436 rfl ?_
  obtain ⟨eR, hj, hN⟩ := OK2.join (R := fun J => r11_addMessage (xs (i + 1)) (xs (i + 2)) (xs (i + 3)) (xs (i + 4)) J _) (F := fun J => i11_addMessage (xs (i + 1)) (xs (i + 2)) (xs (i + 3)) (xs (i + 4)) J _) h (fun J hJ => Y_addMessage (a1 := xs (i + 1)) (a2 := xs (i + 2)) (a3 := xs (i + 3)) (a4 := xs (i + 4)) hJ)
  refine L_aload_n hC (pc1 := 1440) 2 dL_1439 rfl rfl ?_
  refine L_aload_n hC (pc1 := 1441) 0 dL_1440 rfl rfl ?_
  refine L_iload_n hC (pc1 := 1442) 3 dL_1441 rfl rfl ?_
  refine L_iconst hC (pc1 := 1443) dL_1442 vc_1 rfl ?_
  refine L_iadd hC (pc1 := 1444) dL_1443 rfl ?_
  refine L_sld hC (pc1 := 1445) (i + 1) (nI_add i 1) (by omega) hn dL_1444 rfl ?_
  refine L_aload_n hC (pc1 := 1446) 0 dL_1445 rfl rfl ?_
  refine L_iload_n hC (pc1 := 1447) 3 dL_1446 rfl rfl ?_
  refine L_iconst hC (pc1 := 1448) dL_1447 vc_2 rfl ?_
  refine L_iadd hC (pc1 := 1449) dL_1448 rfl ?_
  refine L_sld hC (pc1 := 1450) (i + 2) (nI_add i 2) (by omega) hn dL_1449 rfl ?_
  refine L_aload_n hC (pc1 := 1451) 0 dL_1450 rfl rfl ?_
  refine L_iload_n hC (pc1 := 1452) 3 dL_1451 rfl rfl ?_
  refine L_iconst hC (pc1 := 1453) dL_1452 vc_3 rfl ?_
  refine L_iadd hC (pc1 := 1454) dL_1453 rfl ?_
  refine L_sld hC (pc1 := 1455) (i + 3) (nI_add i 3) (by omega) hn dL_1454 rfl ?_
  refine L_aload_n hC (pc1 := 1456) 0 dL_1455 rfl rfl ?_
  refine L_iload_n hC (pc1 := 1457) 3 dL_1456 rfl rfl ?_
  refine L_iconst hC (pc1 := 1458) dL_1457 vc_4 rfl ?_
  refine L_iadd hC (pc1 := 1459) dL_1458 rfl ?_
  refine L_sld hC (pc1 := 1460) (i + 4) (nI_add i 4) (by omega) hn dL_1459 rfl ?_
  obtain ⟨m, hm8, hm, hg⟩ := hj.rm
  refine L_vi hC (pc1 := 1463) (w11_addMessage g (xs (i + 1)) (xs (i + 2)) (xs (i + 3)) (xs (i + 4)) m hm8 _ _ hm) ly296 (lt305 rfl) s11_addMessage lL_172 rfl rfl ⟨Nat.le_of_ble_eq_true rfl, Nat.le_of_ble_eq_true rfl, hk, hs⟩ (Nat.le_of_ble_eq_true rfl) rfl dL_1460 rfl ?_
  exact L_icmp_eq hC (tgt := 1649) (pc1 := 1466) dL_1463 (by decide) rfl (fun _ => cont _ _ hN) (fun q => absurd eR q)
theorem cs_38 (hC : cL g K n xs) (hn : n ≤ 3072) {i b : Nat} (hi : i + 6 ≤ n) (hb : b < 2 ^ 26) (hk : kc ≤ 600000) (hs : ks ≤ 7302250) (h : REL b I L I) (cont : ∀ I' L', REL (b + 1000) I' L' I' → VL g K kc ks 1649 (lvL g K i) [] (I', L', R0, 305)) : VL g K kc ks 1468 (lvL g K i) [] (I, L, R0, 305) := by
  refine L_aload_n hC (pc1 := 1469) 1 dL_1468 rfl rfl ?_
  refine L_aload_n hC (pc1 := 1470) 0 dL_1469 rfl rfl ?_
  refine L_iload_n hC (pc1 := 1471) 3 dL_1470 rfl rfl ?_
  refine L_iconst hC (pc1 := 1472) dL_1471 vc_1 rfl ?_
  refine L_iadd hC (pc1 := 1473) dL_1472 rfl ?_
  refine L_sld hC (pc1 := 1474) (i + 1) (nI_add i 1) (by omega) hn dL_1473 rfl ?_
  refine L_vi hC (pc1 := 1477) (w10_removeMessage g (xs (i + 1)) I L h.cm) ly0 (lt305 rfl) s10_removeMessage lL_173 rfl rfl ⟨Nat.le_of_ble_eq_true rfl, Nat.le_of_ble_eq_true rfl, hk, hs⟩ (Nat.le_of_ble_eq_true rfl) rfl dL_1474 rfl ?_
  obtain ⟨eR, hj, hN⟩ := OK2.join (R := fun J => r11_removeMessage (xs (i + 1)) J _) (F := fun J => i11_removeMessage (xs (i + 1)) J _) h (fun J hJ => Y_removeMessage (x := xs (i + 1)) hJ)
  refine L_aload_n hC (pc1 := 1478) 2 dL_1477 rfl rfl ?_
  refine L_aload_n hC (pc1 := 1479) 0 dL_1478 rfl rfl ?_
  refine L_iload_n hC (pc1 := 1480) 3 dL_1479 rfl rfl ?_
  refine L_iconst hC (pc1 := 1481) dL_1480 vc_1 rfl ?_
  refine L_iadd hC (pc1 := 1482) dL_1481 rfl ?_
  refine L_sld hC (pc1 := 1483) (i + 1) (nI_add i 1) (by omega) hn dL_1482 rfl ?_
  obtain ⟨m, hm8, hm, hg⟩ := hj.rm
  refine L_vi hC (pc1 := 1486) (w11_removeMessage g (xs (i + 1)) m hm8 _ _ hm) ly296 (lt305 rfl) s11_removeMessage lL_176 rfl rfl ⟨Nat.le_of_ble_eq_true rfl, Nat.le_of_ble_eq_true rfl, hk, hs⟩ (Nat.le_of_ble_eq_true rfl) rfl dL_1483 rfl ?_
  exact L_icmp_eq hC (tgt := 1649) (pc1 := 1489) dL_1486 (by decide) rfl (fun _ => cont _ _ hN) (fun q => absurd eR q)
theorem cs_39 (hC : cL g K n xs) (hn : n ≤ 3072) {i b : Nat} (hi : i + 6 ≤ n) (hb : b < 2 ^ 26) (hk : kc ≤ 600000) (hs : ks ≤ 7302250) (h : REL b I L I) (cont : ∀ I' L', REL (b + 1000) I' L' I' → VL g K kc ks 1649 (lvL g K i) [] (I', L', R0, 305)) : VL g K kc ks 1491 (lvL g K i) [] (I, L, R0, 305) := by
  refine L_aload_n hC (pc1 := 1492) 1 dL_1491 rfl rfl ?_
  refine L_aload_n hC (pc1 := 1493) 0 dL_1492 rfl rfl ?_
  refine L_iload_n hC (pc1 := 1494) 3 dL_1493 rfl rfl ?_
  refine L_iconst hC (pc1 := 1495) dL_1494 vc_1 rfl ?_
  refine L_iadd hC (pc1 := 1496) dL_1495 rfl ?_
  refine L_sld hC (pc1 := 1497) (i + 1) (nI_add i 1) (by omega) hn dL_1496 rfl ?_
  refine L_vi hC (pc1 := 1500) (w10_responseTime g (xs (i + 1)) I L h.cm) ly0 (lt305 rfl) s10_responseTime lL_177 rfl rfl ⟨Nat.le_of_ble_eq_true rfl, Nat.le_of_ble_eq_true rfl, hk, hs⟩ (Nat.le_of_ble_eq_true rfl) rfl dL_1497 rfl ?_
  obtain ⟨eR, hj, hN⟩ := OK2.join (R := fun J => r11_responseTime (xs (i + 1)) J _) (F := fun J => J) h (fun J hJ => Y_responseTime (x := xs (i + 1)) hJ)
  refine L_aload_n hC (pc1 := 1501) 2 dL_1500 rfl rfl ?_
  refine L_aload_n hC (pc1 := 1502) 0 dL_1501 rfl rfl ?_
  refine L_iload_n hC (pc1 := 1503) 3 dL_1502 rfl rfl ?_
  refine L_iconst hC (pc1 := 1504) dL_1503 vc_1 rfl ?_
  refine L_iadd hC (pc1 := 1505) dL_1504 rfl ?_
  refine L_sld hC (pc1 := 1506) (i + 1) (nI_add i 1) (by omega) hn dL_1505 rfl ?_
  obtain ⟨m, hm8, hm, hg⟩ := hj.rm
  refine L_vi hC (pc1 := 1509) (w11_responseTime g (xs (i + 1)) m hm8 _ _ hm hg) ly296 (lt305 rfl) s11_responseTime lL_180 rfl rfl ⟨Nat.le_of_ble_eq_true rfl, Nat.le_of_ble_eq_true rfl, hk, hs⟩ (Nat.le_of_ble_eq_true rfl) rfl dL_1506 rfl ?_
  exact L_icmp_eq hC (tgt := 1649) (pc1 := 1512) dL_1509 (by decide) rfl (fun _ => cont _ _ hN) (fun q => absurd eR q)
theorem cs_40 (hC : cL g K n xs) (hn : n ≤ 3072) {i b : Nat} (hi : i + 6 ≤ n) (hb : b < 2 ^ 26) (hk : kc ≤ 600000) (hs : ks ≤ 7302250) (h : REL b I L I) (cont : ∀ I' L', REL (b + 1000) I' L' I' → VL g K kc ks 1649 (lvL g K i) [] (I', L', R0, 305)) : VL g K kc ks 1514 (lvL g K i) [] (I, L, R0, 305) := by
  refine L_aload_n hC (pc1 := 1515) 1 dL_1514 rfl rfl ?_
  obtain ⟨m, hm8, hm⟩ := h.cm
  refine L_vi hC (pc1 := 1518) (w10_misses g m hm8 I L hm) ly0 (lt305 rfl) s10_misses lL_181 rfl rfl ⟨Nat.le_of_ble_eq_true rfl, Nat.le_of_ble_eq_true rfl, hk, hs⟩ (Nat.le_of_ble_eq_true rfl) rfl dL_1515 rfl ?_
  obtain ⟨eR, hj, hN⟩ := OK2.join (R := fun J => r11_misses  J _) (F := fun J => J) h (fun J hJ => Y_misses  hJ)
  refine L_aload_n hC (pc1 := 1519) 2 dL_1518 rfl rfl ?_
  obtain ⟨m, hm8, hm, hg⟩ := hj.rm
  refine L_vi hC (pc1 := 1522) (w11_misses g m hm8 _ _ hm hg) ly296 (lt305 rfl) s11_misses lL_184 rfl rfl ⟨Nat.le_of_ble_eq_true rfl, Nat.le_of_ble_eq_true rfl, hk, hs⟩ (Nat.le_of_ble_eq_true rfl) rfl dL_1519 rfl ?_
  exact L_icmp_eq hC (tgt := 1649) (pc1 := 1525) dL_1522 (by decide) rfl (fun _ => cont _ _ hN) (fun q => absurd eR q)
theorem cs_41 (hC : cL g K n xs) (hn : n ≤ 3072) {i b : Nat} (hi : i + 6 ≤ n) (hb : b < 2 ^ 26) (hk : kc ≤ 600000) (hs : ks ≤ 7302250) (h : REL b I L I) (cont : ∀ I' L', REL (b + 1000) I' L' I' → VL g K kc ks 1649 (lvL g K i) [] (I', L', R0, 305)) : VL g K kc ks 1527 (lvL g K i) [] (I, L, R0, 305) := by
  refine L_aload_n hC (pc1 := 1528) 1 dL_1527 rfl rfl ?_
  refine L_aload_n hC (pc1 := 1529) 0 dL_1528 rfl rfl ?_
  refine L_iload_n hC (pc1 := 1530) 3 dL_1529 rfl rfl ?_
  refine L_iconst hC (pc1 := 1531) dL_1530 vc_1 rfl ?_
  refine L_iadd hC (pc1 := 1532) dL_1531 rfl ?_
  refine L_sld hC (pc1 := 1533) (i + 1) (nI_add i 1) (by omega) hn dL_1532 rfl ?_
  refine L_vi hC (pc1 := 1536) (w10_append g (xs (i + 1)) I L h.ct) ly0 (lt305 rfl) s10_append lL_185 rfl rfl ⟨Nat.le_of_ble_eq_true rfl, Nat.le_of_ble_eq_true rfl, hk, hs⟩ (Nat.le_of_ble_eq_true rfl) rfl dL_1533 rfl ?_
  obtain ⟨eR, hj, hN⟩ := OK2.join (R := fun J => r11_append (xs (i + 1)) J _) (F := fun J => i11_append (xs (i + 1)) J _) h (fun J hJ => Y_append (x := xs (i + 1)) hJ)
  refine L_aload_n hC (pc1 := 1537) 2 dL_1536 rfl rfl ?_
  refine L_aload_n hC (pc1 := 1538) 0 dL_1537 rfl rfl ?_
  refine L_iload_n hC (pc1 := 1539) 3 dL_1538 rfl rfl ?_
  refine L_iconst hC (pc1 := 1540) dL_1539 vc_1 rfl ?_
  refine L_iadd hC (pc1 := 1541) dL_1540 rfl ?_
  refine L_sld hC (pc1 := 1542) (i + 1) (nI_add i 1) (by omega) hn dL_1541 rfl ?_
  obtain ⟨t, ht8, ht⟩ := hj.rt
  refine L_vi hC (pc1 := 1545) (w11_append g (xs (i + 1)) t ht8 _ _ ht) ly296 (lt305 rfl) s11_append lL_188 rfl rfl ⟨Nat.le_of_ble_eq_true rfl, Nat.le_of_ble_eq_true rfl, hk, hs⟩ (Nat.le_of_ble_eq_true rfl) rfl dL_1542 rfl ?_
  exact L_icmp_eq hC (tgt := 1649) (pc1 := 1548) dL_1545 (by decide) rfl (fun _ => cont _ _ hN) (fun q => absurd eR q)
theorem cs_42 (hC : cL g K n xs) (hn : n ≤ 3072) {i b : Nat} (hi : i + 6 ≤ n) (hb : b < 2 ^ 26) (hk : kc ≤ 600000) (hs : ks ≤ 7302250) (h : REL b I L I) (cont : ∀ I' L', REL (b + 1000) I' L' I' → VL g K kc ks 1649 (lvL g K i) [] (I', L', R0, 305)) : VL g K kc ks 1550 (lvL g K i) [] (I, L, R0, 305) := by
  refine L_aload_n hC (pc1 := 1551) 1 dL_1550 rfl rfl ?_
  refine L_vi hC (pc1 := 1554) (w10_clearText g I L) ly0 (lt305 rfl) s10_clearText lL_189 rfl rfl ⟨Nat.le_of_ble_eq_true rfl, Nat.le_of_ble_eq_true rfl, hk, hs⟩ (Nat.le_of_ble_eq_true rfl) rfl dL_1551 rfl ?_
  obtain ⟨eR, hj, hN⟩ := OK2.join (R := fun J => r11_clearText  J _) (F := fun J => i11_clearText  J _) h (fun J hJ => Y_clearText  hJ)
  refine L_aload_n hC (pc1 := 1555) 2 dL_1554 rfl rfl ?_
  refine L_vi hC (pc1 := 1558) (w11_clearText g _ _) ly296 (lt305 rfl) s11_clearText lL_192 rfl rfl ⟨Nat.le_of_ble_eq_true rfl, Nat.le_of_ble_eq_true rfl, hk, hs⟩ (Nat.le_of_ble_eq_true rfl) rfl dL_1555 rfl ?_
  exact L_icmp_eq hC (tgt := 1649) (pc1 := 1561) dL_1558 (by decide) rfl (fun _ => cont _ _ hN) (fun q => absurd eR q)
theorem cs_43 (hC : cL g K n xs) (hn : n ≤ 3072) {i b : Nat} (hi : i + 6 ≤ n) (hb : b < 2 ^ 26) (hk : kc ≤ 600000) (hs : ks ≤ 7302250) (h : REL b I L I) (cont : ∀ I' L', REL (b + 1000) I' L' I' → VL g K kc ks 1649 (lvL g K i) [] (I', L', R0, 305)) : VL g K kc ks 1563 (lvL g K i) [] (I, L, R0, 305) := by
  refine L_aload_n hC (pc1 := 1564) 1 dL_1563 rfl rfl ?_
  refine L_vi hC (pc1 := 1567) (w10_faultPosition g I L h.ct) ly0 (lt305 rfl) s10_faultPosition lL_193 rfl rfl ⟨Nat.le_of_ble_eq_true rfl, Nat.le_of_ble_eq_true rfl, hk, hs⟩ (Nat.le_of_ble_eq_true rfl) rfl dL_1564 rfl ?_
  obtain ⟨eR, hj, hN⟩ := OK2.join (R := fun J => r11_faultPosition  J _) (F := fun J => i11_faultPosition  J _) h (fun J hJ => Y_faultPosition  hJ)
  refine L_aload_n hC (pc1 := 1568) 2 dL_1567 rfl rfl ?_
  obtain ⟨t, ht8, ht⟩ := hj.rt
  refine L_vi hC (pc1 := 1571) (w11_faultPosition g t ht8 _ _ ht) ly296 (lt305 rfl) s11_faultPosition lL_196 rfl rfl ⟨Nat.le_of_ble_eq_true rfl, Nat.le_of_ble_eq_true rfl, hk, hs⟩ (Nat.le_of_ble_eq_true rfl) rfl dL_1568 rfl ?_
  exact L_icmp_eq hC (tgt := 1649) (pc1 := 1574) dL_1571 (by decide) rfl (fun _ => cont _ _ hN) (fun q => absurd eR q)
theorem cs_44 (hC : cL g K n xs) (hn : n ≤ 3072) {i b : Nat} (hi : i + 6 ≤ n) (hb : b < 2 ^ 26) (hk : kc ≤ 600000) (hs : ks ≤ 7302250) (h : REL b I L I) (cont : ∀ I' L', REL (b + 1000) I' L' I' → VL g K kc ks 1649 (lvL g K i) [] (I', L', R0, 305)) : VL g K kc ks 1576 (lvL g K i) [] (I, L, R0, 305) := by
  refine L_aload_n hC (pc1 := 1577) 1 dL_1576 rfl rfl ?_
  obtain ⟨t, ht8, ht⟩ := h.ct
  refine L_vi hC (pc1 := 1580) (w10_load g t ht8 I L h.cv ht) ly0 (lt305 rfl) s10_load lL_197 rfl rfl ⟨Nat.le_of_ble_eq_true rfl, Nat.le_of_ble_eq_true rfl, hk, hs⟩ (Nat.le_of_ble_eq_true rfl) rfl dL_1577 rfl ?_
  obtain ⟨eR, hj, hN⟩ := OK2.join (R := fun J => r11_load  J _) (F := fun J => i11_load  J _) h (fun J hJ => Y_load  hJ)
  refine L_aload_n hC (pc1 := 1581) 2 dL_1580 rfl rfl ?_
  obtain ⟨t, ht8, ht⟩ := hj.rt
  refine L_vi hC (pc1 := 1584) (w11_load g t ht8 _ _ ht hj.rv) ly296 (lt305 rfl) s11_load lL_200 rfl rfl ⟨Nat.le_of_ble_eq_true rfl, Nat.le_of_ble_eq_true rfl, hk, hs⟩ (Nat.le_of_ble_eq_true rfl) rfl dL_1581 rfl ?_
  exact L_icmp_eq hC (tgt := 1649) (pc1 := 1587) dL_1584 (by decide) rfl (fun _ => cont _ _ hN) (fun q => absurd eR q)
theorem cs_45 (hC : cL g K n xs) (hn : n ≤ 3072) {i b : Nat} (hi : i + 6 ≤ n) (hb : b < 2 ^ 26) (hk : kc ≤ 600000) (hs : ks ≤ 7302250) (h : REL b I L I) (cont : ∀ I' L', REL (b + 1000) I' L' I' → VL g K kc ks 1649 (lvL g K i) [] (I', L', R0, 305)) : VL g K kc ks 1589 (lvL g K i) [] (I, L, R0, 305) := by
  refine L_aload_n hC (pc1 := 1590) 1 dL_1589 rfl rfl ?_
  refine L_aload_n hC (pc1 := 1591) 0 dL_1590 rfl rfl ?_
  refine L_iload_n hC (pc1 := 1592) 3 dL_1591 rfl rfl ?_
  refine L_iconst hC (pc1 := 1593) dL_1592 vc_1 rfl ?_
  refine L_iadd hC (pc1 := 1594) dL_1593 rfl ?_
  refine L_sld hC (pc1 := 1595) (i + 1) (nI_add i 1) (by omega) hn dL_1594 rfl ?_
  refine L_vi hC (pc1 := 1598) (w10_save g (xs (i + 1)) I L h.cv h.cb) ly0 (lt305 rfl) s10_save lL_201 rfl rfl ⟨Nat.le_of_ble_eq_true rfl, Nat.le_of_ble_eq_true rfl, hk, hs⟩ (Nat.le_of_ble_eq_true rfl) rfl dL_1595 rfl ?_
  obtain ⟨eR, hj, hN⟩ := OK2.join (R := fun J => r11_save (xs (i + 1)) J _) (F := fun J => i11_save (xs (i + 1)) J _) h (fun J hJ => Y_save (x := xs (i + 1)) hJ)
  refine L_aload_n hC (pc1 := 1599) 2 dL_1598 rfl rfl ?_
  refine L_aload_n hC (pc1 := 1600) 0 dL_1599 rfl rfl ?_
  refine L_iload_n hC (pc1 := 1601) 3 dL_1600 rfl rfl ?_
  refine L_iconst hC (pc1 := 1602) dL_1601 vc_1 rfl ?_
  refine L_iadd hC (pc1 := 1603) dL_1602 rfl ?_
  refine L_sld hC (pc1 := 1604) (i + 1) (nI_add i 1) (by omega) hn dL_1603 rfl ?_
  refine L_vi hC (pc1 := 1607) (w11_save g (xs (i + 1)) _ _) ly296 (lt305 rfl) s11_save lL_204 rfl rfl ⟨Nat.le_of_ble_eq_true rfl, Nat.le_of_ble_eq_true rfl, hk, hs⟩ (Nat.le_of_ble_eq_true rfl) rfl dL_1604 rfl ?_
  exact L_icmp_eq hC (tgt := 1649) (pc1 := 1610) dL_1607 (by decide) rfl (fun _ => cont _ _ hN) (fun q => absurd eR q)
theorem cs_46 (hC : cL g K n xs) (hn : n ≤ 3072) {i b : Nat} (hi : i + 6 ≤ n) (hb : b < 2 ^ 26) (hk : kc ≤ 600000) (hs : ks ≤ 7302250) (h : REL b I L I) (cont : ∀ I' L', REL (b + 1000) I' L' I' → VL g K kc ks 1649 (lvL g K i) [] (I', L', R0, 305)) : VL g K kc ks 1612 (lvL g K i) [] (I, L, R0, 305) := by
  refine L_aload_n hC (pc1 := 1613) 1 dL_1612 rfl rfl ?_
  refine L_aload_n hC (pc1 := 1614) 0 dL_1613 rfl rfl ?_
  refine L_iload_n hC (pc1 := 1615) 3 dL_1614 rfl rfl ?_
  refine L_iconst hC (pc1 := 1616) dL_1615 vc_1 rfl ?_
  refine L_iadd hC (pc1 := 1617) dL_1616 rfl ?_
  refine L_sld hC (pc1 := 1618) (i + 1) (nI_add i 1) (by omega) hn dL_1617 rfl ?_
  refine L_vi hC (pc1 := 1621) (w10_restore g (xs (i + 1)) I L h.cs h.csb) ly0 (lt305 rfl) s10_restore lL_205 rfl rfl ⟨Nat.le_of_ble_eq_true rfl, Nat.le_of_ble_eq_true rfl, hk, hs⟩ (Nat.le_of_ble_eq_true rfl) rfl dL_1618 rfl ?_
  obtain ⟨eR, hj, hN⟩ := OK2.join (R := fun J => r11_restore (xs (i + 1)) J _) (F := fun J => i11_restore (xs (i + 1)) J _) h (fun J hJ => Y_restore (x := xs (i + 1)) hJ)
  refine L_aload_n hC (pc1 := 1622) 2 dL_1621 rfl rfl ?_
  refine L_aload_n hC (pc1 := 1623) 0 dL_1622 rfl rfl ?_
  refine L_iload_n hC (pc1 := 1624) 3 dL_1623 rfl rfl ?_
  refine L_iconst hC (pc1 := 1625) dL_1624 vc_1 rfl ?_
  refine L_iadd hC (pc1 := 1626) dL_1625 rfl ?_
  refine L_sld hC (pc1 := 1627) (i + 1) (nI_add i 1) (by omega) hn dL_1626 rfl ?_
  refine L_vi hC (pc1 := 1630) (w11_restore g (xs (i + 1)) _ _) ly296 (lt305 rfl) s11_restore lL_208 rfl rfl ⟨Nat.le_of_ble_eq_true rfl, Nat.le_of_ble_eq_true rfl, hk, hs⟩ (Nat.le_of_ble_eq_true rfl) rfl dL_1627 rfl ?_
  exact L_icmp_eq hC (tgt := 1649) (pc1 := 1633) dL_1630 (by decide) rfl (fun _ => cont _ _ hN) (fun q => absurd eR q)
theorem cs_47 (hC : cL g K n xs) (hn : n ≤ 3072) {i b : Nat} (hi : i + 6 ≤ n) (hb : b < 2 ^ 26) (hk : kc ≤ 600000) (hs : ks ≤ 7302250) (h : REL b I L I) (cont : ∀ I' L', REL (b + 1000) I' L' I' → VL g K kc ks 1649 (lvL g K i) [] (I', L', R0, 305)) : VL g K kc ks 1635 (lvL g K i) [] (I, L, R0, 305) := by
  refine L_aload_n hC (pc1 := 1636) 1 dL_1635 rfl rfl ?_
  refine L_vl hC (pc1 := 1639) (w10_checksum g I L h.cv) ly0 (lt305 rfl) s10_checksum lL_209 rfl rfl ⟨Nat.le_of_ble_eq_true rfl, Nat.le_of_ble_eq_true rfl, hk, hs⟩ (Nat.le_of_ble_eq_true rfl) rfl dL_1636 rfl ?_
  obtain ⟨eR, hj, hN⟩ := OK2.joinl (R := fun J => r11_checksum  J _) (F := fun J => J) h (fun J hJ => Y_checksum  hb hJ)
  refine L_aload_n hC (pc1 := 1640) 2 dL_1639 rfl rfl ?_
  obtain ⟨t, ht9, ht⟩ := hj.rT hb
  refine L_vl hC (pc1 := 1643) (w11_checksum g t ht9 _ _ hj.rv ht) ly296 (lt305 rfl) s11_checksum lL_213 rfl rfl ⟨Nat.le_of_ble_eq_true rfl, Nat.le_of_ble_eq_true rfl, hk, hs⟩ (Nat.le_of_ble_eq_true rfl) rfl dL_1640 rfl ?_
  refine L_lcmp hC (pc1 := 1644) dL_1643 rfl ?_
  exact L_if_eq hC (tgt := 1649) (pc1 := 1647) dL_1644 (by decide) rfl (fun _ => cont _ _ hN) (fun q => absurd (by rw [eR]; exact lg_cmp_refl _) q)
end CAS
