theorem ao_Bus : Cond.arrayOver (.object "ArbitratedBus$Bus") ∈ lw_tbl := xm2 (List.mem_of_getElem? (i := 26) (by decide +kernel))
theorem ao_Node : Cond.arrayOver (.object "ArbitratedBus$Node") ∈ lw_tbl := xm1 (List.mem_of_getElem? (i := 52) (by decide +kernel))
theorem x_inst : ∀ (c : Nat) (q : vw_C), xC[c]? = some q → Cond.instantiable q.1 q.2.2 ∈ xT := by
  intro c q h
  match c, h with
  | 0, h => cases h; exact n0_
  | 1, h => cases h; exact n1_
  | 2, h => cases h; exact n2_
  | 3, h => cases h; exact n3_
  | 4, h => cases h; exact n4_
  | 5, h => cases h; exact n5_
  | 6, h => cases h; exact n6_
  | 7, h => cases h; exact n7_
  | 8, h => cases h; exact n8_
  | 9, h => cases h; exact n9_
  | 10, h => cases h; exact n10_
  | 11, h => cases h; exact n11_
  | n + 12, h => simp [xC] at h
theorem g_ex {s : State} {A : Array Value} (l : Launch) (hts : ∀ w ∈ lw_tbl, w.before A s = true) : ∃ g : GlT, g.1 = l ∧ g.2.2.1 = s.heap.size ∧ xK g s := by
  have htx : ∀ w ∈ xT, w.before A s = true := fun w hw => hts w (List.mem_filter.mp hw).1
  have hk : ∀ ci : Nat, ∃ r : ClassId × (Nat → Nat), ∀ q, xC[ci]? = some q → u_Kn s q.1 q.2.1 q.2.2 r.1 r.2 := fun ci => by
    cases hq : xC[ci]? with
    | none => exact ⟨(0, fun _ => 0), fun q h => by cases h⟩
    | some q =>
      obtain ⟨-, hin, -⟩ := xC_ok ci q hq
      obtain ⟨cC, iS, h⟩ := u_known htx hin (htx _ (x_inst ci q hq))
      exact ⟨(cC, iS), fun q' h' => by cases h'; exact h⟩
  obtain ⟨f, hf⟩ := Classical.axiomOfChoice hk
  obtain ⟨cI, kI, oI, i1, i2, i3⟩ := Cond.arrayClass_spec (htx _ jarrI)
  obtain ⟨cZ, kZ, oZ, z1, z2, z3⟩ := Cond.arrayClass_spec (htx _ jarrZ)
  obtain ⟨oB, cB, kB, b1, b2, b3, b4, b5⟩ := Cond.arrayOver_spec (hts _ ao_Bus)
  obtain ⟨oN, cN, kN, n1, n2, n3, n4, n5⟩ := Cond.arrayOver_spec (hts _ ao_Node)
  refine ⟨(l, (fun c => (f c).1, fun c => (f c).2), s.heap.size, cI, cZ, cB, cN), rfl, rfl, ⟨fun c q hq => hf c q hq, fun k q hk => ?_⟩, fun w hw => ?_, va_AO.of (hts _ ao_Bus), va_AO.of (hts _ ao_Node)⟩
  · match k, hk with
    | 0, hk => cases hk; exact ⟨fun n z => ⟨fun k h => (by cases h), kI, i2, oI, i3⟩, i1⟩
    | 1, hk => cases hk; exact ⟨fun n z => ⟨fun k h => (by cases h), kZ, z2, oZ, z3⟩, z1⟩
    | 2, hk => cases hk; exact ⟨fun n z => ⟨fun k h => (by cases h), kB, b3, oB, b4⟩, kB, oB, b3, b4, b1, b5⟩
    | 3, hk => cases hk; exact ⟨fun n z => ⟨fun k h => (by cases h), kN, n3, oN, n4⟩, kN, oN, n3, n4, n1, n5⟩
    | n + 4, hk => simp [xTys] at hk
  · have h1 := hts w (List.mem_filter.mp hw).1
    have h2 := (List.mem_filter.mp hw).2
    cases w <;> first | exact va_Nw.of rfl h1 | (simp [isNest] at h2)
theorem whole_start {p : Program} {e : Env} {s : State} {m : MethodId} {below : List Frame} {meth : Method} {c : Code} (l : Launch) (hflags : l.flags = flags0) {b L : Nat} {xs : Nat → Int32} (hL : L ≤ 3072) (C0 : lw_At p s m meth c b L xs) : W p l e room_1 s m #[Value.ref b] below meth c s.heap [] 0 0 (lw_Z below #[Value.ref b] s) (entryFrame m ([Value.ref b] : List Value).toArray 4) := by
  obtain ⟨hx, hb, hr, hml, hown, hts, hX, hbl, hlocks, hgv⟩ := id C0
  obtain ⟨g, g1, g2, g3⟩ := g_ex l hts
  subst g1
  have hC : cL g (p, e, s, m, below, meth, c, b) L xs := ⟨C0, g3, g2⟩
  have hl := lv_entry ([Value.ref b]) (n := 4) (Nat.le_of_ble_eq_true rfl)
  rw [lg_entry_eq]
  have z0 : zM 0 (fun _ _ => 0) (fun _ _ => 0) (fun _ _ => none) := fun a _ => ⟨rfl, rfl, rfl⟩
  have key : VL g (p, e, s, m, below, meth, c, b) 0 0 0 [(0, .ref b)] [] (fun _ _ => 0, fun _ _ => 0, fun _ _ => none, 0) := by
    refine L_new hC (pc1 := 3) (ci := 10) rfl ly0 (by decide) z0 cL_7 n10_ n10_i (Nat.le_of_ble_eq_true rfl) (Nat.le_of_ble_eq_true rfl) dL_0 rfl ?_
    refine L_dup hC (pc1 := 4) dL_3 rfl rfl ?_
    refine L_callI hC (pc1 := 7) (wC10 g (z0.up (by omega))) s10_init lL_9 rfl ⟨Nat.le_of_ble_eq_true rfl, Nat.le_of_ble_eq_true rfl, Nat.le_of_ble_eq_true rfl, Nat.le_of_ble_eq_true rfl⟩ (Nat.le_of_ble_eq_true rfl) rfl dL_4 rfl fun r M' h => ?_
    obtain ⟨rfl, rfl⟩ := h
    have z1 := zC10 (z0.up (m := 1) (by omega))
    refine L_astore_n hC (pc1 := 8) dL_7 rfl rfl ?_
    refine L_new hC (pc1 := 11) (ci := 11) rfl ly296 (by decide) z1 cL_10 n11_ n11_i (Nat.le_of_ble_eq_true rfl) (Nat.le_of_ble_eq_true rfl) dL_8 rfl ?_
    refine L_dup hC (pc1 := 12) dL_11 rfl rfl ?_
    refine L_callI hC (pc1 := 15) (wC11 g (z1.up (by omega))) s11_init lL_12 rfl ⟨Nat.le_of_ble_eq_true rfl, Nat.le_of_ble_eq_true rfl, Nat.le_of_ble_eq_true rfl, Nat.le_of_ble_eq_true rfl⟩ (Nat.le_of_ble_eq_true rfl) rfl dL_12 rfl fun r M' h => ?_
    obtain ⟨rfl, rfl⟩ := h
    refine L_astore_n hC (pc1 := 16) dL_15 rfl rfl ?_
    refine L_iconst hC (pc1 := 17) dL_16 vc_0 rfl ?_
    refine L_istore_n hC (pc1 := 18) dL_17 rfl rfl ?_
    exact L_lv (lvsub_p [3, 2, 1, 0] rfl) (law_loop hC hL (Nat.le_of_ble_eq_true rfl) (Nat.le_of_ble_eq_true rfl) 513 0 0 iZ lZ (by omega) (by omega) (by omega) REL0)
  exact key s.heap [] _ ⟨fun _ => by show s.heap.size = g.2.2.1 + 0; rw [g2]; rfl, fun k q h => by simp [xW] at h⟩ va_S.rf hl
set_option maxHeartbeats 4000000 in
theorem lw_walk (l : Launch) (hflags : l.flags = flags0) (b : Addr) (xs : List Int32) : MetFree l x (headSpec (Jvm.Cond.code x code maxLocals ret :: tables_1) room_1) (lw_P b xs) (fun _ _ _ _ _ => True) lw_Q := by
  refine MetFree.of_bodyS (code := code) (maxLocals := maxLocals) (ret := ret) (by decide) ?_ ?_
  · intro args s m h hn
    obtain ⟨meth, c, h1, h2, h3, h4, h5, h6, -, -⟩ := Cond.code_spec hn (atoms_spec (ws := Jvm.Cond.code x code maxLocals ret :: tables_1) h _ List.mem_cons_self)
    exact ⟨meth, c, h1, h2, h3, h4, h5, h6⟩
  · intro p e s m args below meth c s₁ B hml0 hP _
    obtain ⟨rfl, hx, hbd, hgv⟩ := hP
    obtain ⟨scr, harrAt, hlist, hof, hsmall⟩ := hx
    obtain ⟨hcb, hkn, -, -⟩ := State.arrayAt?_spec harrAt
    have hown : s.vm.findClass R_law = some m.cls := findClass_of_methodNamed B.named
    have hts0 : ∀ c ∈ (Jvm.Cond.code x code maxLocals ret :: tables_1), c.before #[Value.ref b] s = true := atoms_spec (ws := Jvm.Cond.code x code maxLocals ret :: tables_1) B.pre
    have hts : ∀ w ∈ lw_tbl, w.before #[Value.ref b] s = true := k2_hts_sels lw_privs (fun w hw => hts0 w (List.mem_cons_of_mem _ hw)) lw_privs_ok
    have hml : c.maxLocals = 4 := B.maxLocals_eq (hts0 _ List.mem_cons_self)
    have X₀ : Stand p l e room_1 s m #[Value.ref b] below meth c s₁ [] 0 0 := Stand.of_body B
    have hh0 : s₁.heap = s.heap := by rw [B.state]; rfl
    have hsz : scr.slots.size = xs.length := by rw [← Array.length_toList, hlist, List.length_map]
    have hval : ∀ j : Nat, j < xs.length → scr.slots[j]? = some (.int (xs.getD j 0)) := fun j hj => by
      rw [← Array.getElem?_toList, hlist]
      simp [hj]
    have hbl : b < s.heap.size := (Array.getElem?_eq_some_iff.mp hcb).1
    have hX : va_X b xs.length (fun j => xs.getD j 0) s s.heap := ⟨scr, hcb, hof, hkn, hsz, hval⟩
    have K : W p l e room_1 s m #[Value.ref b] below meth c s₁.heap [] 0 0 (lw_Z below #[Value.ref b] s) (entryFrame m ([Value.ref b] : List Value).toArray 4) := by
      rw [hh0]
      exact whole_start l hflags hbd ⟨B.exec, B.bytes, B.returns, hml, hown, hts, hX, hbl, B.notSynchronized, hgv⟩
    obtain ⟨t, a1, o, b1, b2, b3⟩ := K s₁ rfl X₀
    exact ⟨t, o, a1, b1, b2, b3⟩
theorem lw_pre_spec {args : Array Value} {s : State} (h : (Jvm.Cond.and given_1 narrow_1).before args s = true) (hr : rest_1_c.before args s = true) : ∃ (b : Addr) (xs : List Int32), lw_P b xs args s := by
  have hs := flat_of_before _ h
  have hq := flat_of_before _ hr
  have hc : (Cond.count 1).before args s = true := hs _ (by decide +kernel)
  have harr : (Cond.arrayOf (.arg 0) .int).before args s = true := hs _ (by decide +kernel)
  have hle : (Cond.le (.length (.arg 0)) (.int 3072)).before args s = true := hs _ (by decide +kernel)
  have hlen : (Cond.isInt (.length (.arg 0))).before args s = true := hq _ (by decide +kernel)
  have hall : (Cond.all (.arg 0) (.isInt (.elem (.arg 0) (.index 0)))).before args s = true := hq _ (by decide +kernel)
  obtain ⟨b, xs, hb, hx⟩ := State.ints_of_pre rfl harr hlen hall
  have hsm : xs.length < 2 ^ 31 := hx.choose_spec.2.2.2
  have hev : (Term.length (.arg 0)).eval args s none [] s = some (.int xs.length.toInt32) := hx.length_eval hb
  have hv := Cond.le_ints hev (show (Term.int 3072).eval args s none [] s = some (.int 3072) from rfl)
  have hd : xs.length.toInt32 ≤ 3072 := by
    simpa [Cond.before, Cond.holds, hv] using hle
  have hN : xs.length ≤ 3072 := (Int32.ofNat_le_ofNat hsm (by decide)).mp (show Int32.ofNat xs.length ≤ Int32.ofNat 3072 from hd)
  exact ⟨b, xs, Cond.one_arg hc (show args[0]? = some (.ref b) from hb), hx, hN, h⟩
theorem lw_comes (l : Launch) (hflags : l.flags = flags0) : Comes l x (Jvm.Cond.code x code maxLocals ret :: tables_1) room_1 (fun tb e args s => Calls_1 tb e args s ∧ rest_1 tb e args s ∧ Pre_1 tb e args s)
    (fun _ _ args s o t => lw_Q args s o t) := by
  intro p e ha hc hk s m args below hf hfit hheap happ hpre
  obtain ⟨b, xs, hP⟩ := lw_pre_spec hpre.2.2 hpre.2.1
  obtain ⟨k, o, h1, h2, h3, hQ⟩ := lw_walk l hflags b xs p e ha hc hk s m args below hf ((Spec.applies_iff_loose hf).mp happ).1 hP trivial
  exact ⟨k, o, h1, h2, h3, hQ⟩
theorem lw_frame {s t : State} {o : Outcome} {args : Array Value} (h : Framed s o t [] 600000 7302250) :
    Framed s o t (fieldLocs frame_1_writes args s ++ arrayLocs frame_1_arrays args s ++ staticLocs frame_1_statics s) 600000 7302250 := h
theorem lw_limb (L : Cond) (hL : ∀ (args : Array Value) (s t : State), L.after args s (.returned (some (.int 1))) t = true) :
    ArmFor flags0 classFile x code maxLocals ret World_1 tables_1 room_1 Calls_1 rest_1 Pre_1
      (fun tb e a s o t => postC L tb e a s o t ∧ Framed s o t (fieldLocs frame_1_writes a s ++ arrayLocs frame_1_arrays a s ++ staticLocs frame_1_statics s) 600000 7302250) := by
  intro l hflags _ _ p e ha hc hk s m args below hf hfit hheap happ hpre
  obtain ⟨k, o, h1, h2, h3, rfl, hF⟩ := lw_comes l hflags p e ha hc hk s m args below hf hfit hheap happ hpre
  exact ⟨k, _, h1, h2, h3, hL args s _, lw_frame hF⟩
theorem i_vc : Claimed_1_1 ∧ Claimed_1_2 := ⟨lw_limb limb_1_1 (fun args s t => by simp [limb_1_1, Cond.after, Cond.holds, Cond.value]), lw_limb limb_1_2 (fun args s t => Cond.after_iff.mpr (by
  first | (rw [show limb_1_2 = Cond.eq .result (.int 1) from rfl, Cond.eq_ints (x := 1) (y := 1) rfl rfl]; simp; done) | (simp [limb_1_2, Cond.value, Term.eval]; done)))⟩
