section VR
variable {g : GlT} {X : XT} {kc ks pc pc1 : Nat} {lv lv1 : List (Nat × Value)} {st stk : List Value} {M : MemT} {Q : Option Value → MemT → Prop}
theorem V_iconst {n : Int} {v : Int32} (hd : decode X.1.2.1 pc = .ok (.iconst n, 1)) (hv : Int32.ofInt n = v) (hp : pc + 1 = pc1) (k : V g X kc ks pc1 lv (.int v :: st) M Q) : V g X kc ks pc lv st M Q := by
  subst hp
  intro p e s m args below meth c hC H locs ls hP hS hl
  exact lv_iconst hC.1 hC.2.1 hd hv (k p e s m args below meth c hC H locs ls hP hS hl)
theorem V_bipush {n : Int} {v : Int32} (hd : decode X.1.2.1 pc = .ok (.bipush n, 2)) (hv : (Int8.ofInt n).toInt32 = v) (hp : pc + 2 = pc1) (k : V g X kc ks pc1 lv (.int v :: st) M Q) : V g X kc ks pc lv st M Q := by
  subst hp
  intro p e s m args below meth c hC H locs ls hP hS hl
  exact lv_bipush hC.1 hC.2.1 hd hv (k p e s m args below meth c hC H locs ls hP hS hl)
theorem V_sipush {n : Int} {v : Int32} (hd : decode X.1.2.1 pc = .ok (.sipush n, 3)) (hv : (Int16.ofInt n).toInt32 = v) (hp : pc + 3 = pc1) (k : V g X kc ks pc1 lv (.int v :: st) M Q) : V g X kc ks pc lv st M Q := by
  subst hp
  intro p e s m args below meth c hC H locs ls hP hS hl
  exact lv_sipush hC.1 hC.2.1 hd hv (k p e s m args below meth c hC H locs ls hP hS hl)
theorem V_lconst {n : Fin 2} {v : Int64} (hd : decode X.1.2.1 pc = .ok (.lconst n, 1)) (hv : Int64.ofNat (n : Nat) = v) (hp : pc + 1 = pc1) (k : V g X kc ks pc1 lv (.long v :: st) M Q) : V g X kc ks pc lv st M Q := by
  subst hp
  intro p e s m args below meth c hC H locs ls hP hS hl
  exact lv_lconst hC.1 hC.2.1 hd hv (k p e s m args below meth c hC H locs ls hP hS hl)
theorem V_ldc2 {i : Nat} {v : Int64} (hd : decode X.1.2.1 pc = .ok (.ldc2_w i, 3)) (hw : Cond.constantLong X.1.1.cls i v ∈ xT) (hp : pc + 3 = pc1) (k : V g X kc ks pc1 lv (.long v :: st) M Q) : V g X kc ks pc lv st M Q := by
  subst hp
  intro p e s m args below meth c hC H locs ls hP hS hl
  exact lv_ldc2 hC.1 hC.2.1 hC.2.2.2.2.2.1 (hC.2.2.2.2.2.2.2.1 _ hw) hd (k p e s m args below meth c hC H locs ls hP hS hl)
theorem V_iload_n (q : Nat) {k : Fin 4} {x : Int32} (hd : decode X.1.2.1 pc = .ok (.iload_n k, 1)) (hq : lv[q]? = some ((k : Nat), .int x)) (hp : pc + 1 = pc1) (k : V g X kc ks pc1 lv (.int x :: st) M Q) : V g X kc ks pc lv st M Q := by
  subst hp
  intro p e s m args below meth c hC H locs ls hP hS hl
  exact lv_iload_n hC.1 hC.2.1 hd rfl (lv_at hl q hq) (k p e s m args below meth c hC H locs ls hP hS hl)
theorem V_iload (q : Nat) {i : Nat} {x : Int32} (hd : decode X.1.2.1 pc = .ok (.iload i, 2)) (hq : lv[q]? = some (i, .int x)) (hp : pc + 2 = pc1) (k : V g X kc ks pc1 lv (.int x :: st) M Q) : V g X kc ks pc lv st M Q := by
  subst hp
  intro p e s m args below meth c hC H locs ls hP hS hl
  exact lv_iload hC.1 hC.2.1 hd (lv_at hl q hq) (k p e s m args below meth c hC H locs ls hP hS hl)
theorem V_istore_n {k : Fin 4} {x : Int32} (hd : decode X.1.2.1 pc = .ok (.istore_n k, 1)) (hn : (k : Nat) < X.1.2.2.1) (hlv : ((k : Nat), Value.int x) :: lv.filter (fun q => !(q.1 == (k : Nat)) && !(q.1 + 1 == (k : Nat) && q.2.category == 2)) = lv1) (hp : pc + 1 = pc1) (kk : V g X kc ks pc1 lv1 st M Q) : V g X kc ks pc lv (.int x :: st) M Q := by
  subst hp
  intro p e s m args below meth c hC H locs ls hP hS hl
  exact lv_istore_n hC.1 hC.2.1 hd rfl hl hn hlv fun ls1 hl1 => kk p e s m args below meth c hC H locs ls1 hP hS hl1
theorem V_istore {i : Nat} {x : Int32} (hd : decode X.1.2.1 pc = .ok (.istore i, 2)) (hn : i < X.1.2.2.1) (hlv : (i, Value.int x) :: lv.filter (fun q => !(q.1 == i) && !(q.1 + 1 == i && q.2.category == 2)) = lv1) (hp : pc + 2 = pc1) (kk : V g X kc ks pc1 lv1 st M Q) : V g X kc ks pc lv (.int x :: st) M Q := by
  subst hp
  intro p e s m args below meth c hC H locs ls hP hS hl
  exact lv_istore hC.1 hC.2.1 hd hl hn hlv fun ls1 hl1 => kk p e s m args below meth c hC H locs ls1 hP hS hl1
theorem V_lload_n (q : Nat) {k : Fin 4} {x : Int64} (hd : decode X.1.2.1 pc = .ok (.lload_n k, 1)) (hq : lv[q]? = some ((k : Nat), .long x)) (hp : pc + 1 = pc1) (k : V g X kc ks pc1 lv (.long x :: st) M Q) : V g X kc ks pc lv st M Q := by
  subst hp
  intro p e s m args below meth c hC H locs ls hP hS hl
  exact lv_lload_n hC.1 hC.2.1 hd rfl (lv_at hl q hq) (k p e s m args below meth c hC H locs ls hP hS hl)
theorem V_lload (q : Nat) {i : Nat} {x : Int64} (hd : decode X.1.2.1 pc = .ok (.lload i, 2)) (hq : lv[q]? = some (i, .long x)) (hp : pc + 2 = pc1) (k : V g X kc ks pc1 lv (.long x :: st) M Q) : V g X kc ks pc lv st M Q := by
  subst hp
  intro p e s m args below meth c hC H locs ls hP hS hl
  exact lv_lload hC.1 hC.2.1 hd (lv_at hl q hq) (k p e s m args below meth c hC H locs ls hP hS hl)
theorem V_lstore_n {k : Fin 4} {x : Int64} (hd : decode X.1.2.1 pc = .ok (.lstore_n k, 1)) (hn : (k : Nat) + 1 < X.1.2.2.1) (hlv : ((k : Nat), Value.long x) :: lv.filter (fun q => !(q.1 == (k : Nat)) && (!(q.1 == (k : Nat) + 1) && !(q.1 + 1 == (k : Nat) && q.2.category == 2))) = lv1) (hp : pc + 1 = pc1) (kk : V g X kc ks pc1 lv1 st M Q) : V g X kc ks pc lv (.long x :: st) M Q := by
  subst hp
  intro p e s m args below meth c hC H locs ls hP hS hl
  exact lv_lstore_n hC.1 hC.2.1 hd rfl hl hn hlv fun ls1 hl1 => kk p e s m args below meth c hC H locs ls1 hP hS hl1
theorem V_lstore {i : Nat} {x : Int64} (hd : decode X.1.2.1 pc = .ok (.lstore i, 2)) (hn : i + 1 < X.1.2.2.1) (hlv : (i, Value.long x) :: lv.filter (fun q => !(q.1 == i) && (!(q.1 == i + 1) && !(q.1 + 1 == i && q.2.category == 2))) = lv1) (hp : pc + 2 = pc1) (kk : V g X kc ks pc1 lv1 st M Q) : V g X kc ks pc lv (.long x :: st) M Q := by
  subst hp
  intro p e s m args below meth c hC H locs ls hP hS hl
  exact lv_lstore hC.1 hC.2.1 hd hl hn hlv fun ls1 hl1 => kk p e s m args below meth c hC H locs ls1 hP hS hl1
theorem V_aload_n (q : Nat) {k : Fin 4} {x : Nat} (hd : decode X.1.2.1 pc = .ok (.aload_n k, 1)) (hq : lv[q]? = some ((k : Nat), .ref x)) (hp : pc + 1 = pc1) (k : V g X kc ks pc1 lv (.ref x :: st) M Q) : V g X kc ks pc lv st M Q := by
  subst hp
  intro p e s m args below meth c hC H locs ls hP hS hl
  exact lv_aload_n hC.1 hC.2.1 hd rfl (lv_at hl q hq) (k p e s m args below meth c hC H locs ls hP hS hl)
theorem V_aload (q : Nat) {i : Nat} {x : Nat} (hd : decode X.1.2.1 pc = .ok (.aload i, 2)) (hq : lv[q]? = some (i, .ref x)) (hp : pc + 2 = pc1) (k : V g X kc ks pc1 lv (.ref x :: st) M Q) : V g X kc ks pc lv st M Q := by
  subst hp
  intro p e s m args below meth c hC H locs ls hP hS hl
  exact lv_aload hC.1 hC.2.1 hd (lv_at hl q hq) (k p e s m args below meth c hC H locs ls hP hS hl)
theorem V_astore_n {k : Fin 4} {x : Nat} (hd : decode X.1.2.1 pc = .ok (.astore_n k, 1)) (hn : (k : Nat) < X.1.2.2.1) (hlv : ((k : Nat), Value.ref x) :: lv.filter (fun q => !(q.1 == (k : Nat)) && !(q.1 + 1 == (k : Nat) && q.2.category == 2)) = lv1) (hp : pc + 1 = pc1) (kk : V g X kc ks pc1 lv1 st M Q) : V g X kc ks pc lv (.ref x :: st) M Q := by
  subst hp
  intro p e s m args below meth c hC H locs ls hP hS hl
  exact lv_astore_n hC.1 hC.2.1 hd rfl hl hn hlv fun ls1 hl1 => kk p e s m args below meth c hC H locs ls1 hP hS hl1
theorem V_astore {i : Nat} {x : Nat} (hd : decode X.1.2.1 pc = .ok (.astore i, 2)) (hn : i < X.1.2.2.1) (hlv : (i, Value.ref x) :: lv.filter (fun q => !(q.1 == i) && !(q.1 + 1 == i && q.2.category == 2)) = lv1) (hp : pc + 2 = pc1) (kk : V g X kc ks pc1 lv1 st M Q) : V g X kc ks pc lv (.ref x :: st) M Q := by
  subst hp
  intro p e s m args below meth c hC H locs ls hP hS hl
  exact lv_astore hC.1 hC.2.1 hd hl hn hlv fun ls1 hl1 => kk p e s m args below meth c hC H locs ls1 hP hS hl1
theorem V_iinc (q : Nat) {i : Nat} {n : Int} {x v : Int32} (hd : decode X.1.2.1 pc = .ok (.iinc i n, 3)) (hq : lv[q]? = some (i, .int x)) (hv : x + Int32.ofInt n = v) (hn : i < X.1.2.2.1) (hlv : (i, Value.int v) :: lv.filter (fun q => !(q.1 == i) && !(q.1 + 1 == i && q.2.category == 2)) = lv1) (hp : pc + 3 = pc1) (kk : V g X kc ks pc1 lv1 st M Q) : V g X kc ks pc lv st M Q := by
  subst hp
  intro p e s m args below meth c hC H locs ls hP hS hl
  exact lv_iinc hC.1 hC.2.1 hd hl (k := q) hq hv hn hlv fun ls1 hl1 => kk p e s m args below meth c hC H locs ls1 hP hS hl1
theorem V_dup {v : Value} (hd : decode X.1.2.1 pc = .ok (.dup, 1)) (hv : v.category = 1) (hp : pc + 1 = pc1) (k : V g X kc ks pc1 lv (v :: v :: st) M Q) : V g X kc ks pc lv (v :: st) M Q := by
  subst hp
  intro p e s m args below meth c hC H locs ls hP hS hl
  exact lv_dup hC.1 hC.2.1 hd hv (k p e s m args below meth c hC H locs ls hP hS hl)
theorem V_dup2 {v w : Value} (hd : decode X.1.2.1 pc = .ok (.dup2, 1)) (hv : v.category = 1) (hw : w.category = 1) (hp : pc + 1 = pc1) (k : V g X kc ks pc1 lv (v :: w :: v :: w :: st) M Q) : V g X kc ks pc lv (v :: w :: st) M Q := by
  subst hp
  intro p e s m args below meth c hC H locs ls hP hS hl
  exact lv_dup2_11 hC.1 hC.2.1 hd hv hw (k p e s m args below meth c hC H locs ls hP hS hl)
theorem V_pop {v : Value} (hd : decode X.1.2.1 pc = .ok (.pop, 1)) (hv : v.category = 1) (hp : pc + 1 = pc1) (k : V g X kc ks pc1 lv st M Q) : V g X kc ks pc lv (v :: st) M Q := by
  subst hp
  intro p e s m args below meth c hC H locs ls hP hS hl
  exact lv_pop hC.1 hC.2.1 hd hv (k p e s m args below meth c hC H locs ls hP hS hl)
theorem V_iadd {x y : Int32} (hd : decode X.1.2.1 pc = .ok (.iadd, 1)) (hp : pc + 1 = pc1) (k : V g X kc ks pc1 lv (.int (x + y) :: st) M Q) : V g X kc ks pc lv (.int y :: .int x :: st) M Q := by
  subst hp
  intro p e s m args below meth c hC H locs ls hP hS hl
  exact lv_iadd hC.1 hC.2.1 hd (k p e s m args below meth c hC H locs ls hP hS hl)
theorem V_isub {x y : Int32} (hd : decode X.1.2.1 pc = .ok (.isub, 1)) (hp : pc + 1 = pc1) (k : V g X kc ks pc1 lv (.int (x - y) :: st) M Q) : V g X kc ks pc lv (.int y :: .int x :: st) M Q := by
  subst hp
  intro p e s m args below meth c hC H locs ls hP hS hl
  exact lv_isub hC.1 hC.2.1 hd (k p e s m args below meth c hC H locs ls hP hS hl)
theorem V_imul {x y : Int32} (hd : decode X.1.2.1 pc = .ok (.imul, 1)) (hp : pc + 1 = pc1) (k : V g X kc ks pc1 lv (.int (x * y) :: st) M Q) : V g X kc ks pc lv (.int y :: .int x :: st) M Q := by
  subst hp
  intro p e s m args below meth c hC H locs ls hP hS hl
  exact lv_imul hC.1 hC.2.1 hd (k p e s m args below meth c hC H locs ls hP hS hl)
theorem V_iand {x y : Int32} (hd : decode X.1.2.1 pc = .ok (.iand, 1)) (hp : pc + 1 = pc1) (k : V g X kc ks pc1 lv (.int (x &&& y) :: st) M Q) : V g X kc ks pc lv (.int y :: .int x :: st) M Q := by
  subst hp
  intro p e s m args below meth c hC H locs ls hP hS hl
  exact lv_iand hC.1 hC.2.1 hd (k p e s m args below meth c hC H locs ls hP hS hl)
theorem V_ior {x y : Int32} (hd : decode X.1.2.1 pc = .ok (.ior, 1)) (hp : pc + 1 = pc1) (k : V g X kc ks pc1 lv (.int (x ||| y) :: st) M Q) : V g X kc ks pc lv (.int y :: .int x :: st) M Q := by
  subst hp
  intro p e s m args below meth c hC H locs ls hP hS hl
  exact lv_ior hC.1 hC.2.1 hd (k p e s m args below meth c hC H locs ls hP hS hl)
theorem V_ixor {x y : Int32} (hd : decode X.1.2.1 pc = .ok (.ixor, 1)) (hp : pc + 1 = pc1) (k : V g X kc ks pc1 lv (.int (x ^^^ y) :: st) M Q) : V g X kc ks pc lv (.int y :: .int x :: st) M Q := by
  subst hp
  intro p e s m args below meth c hC H locs ls hP hS hl
  exact lv_ixor hC.1 hC.2.1 hd (k p e s m args below meth c hC H locs ls hP hS hl)
theorem V_ishl {x y : Int32} (hd : decode X.1.2.1 pc = .ok (.ishl, 1)) (hp : pc + 1 = pc1) (k : V g X kc ks pc1 lv (.int (x <<< (y &&& 31)) :: st) M Q) : V g X kc ks pc lv (.int y :: .int x :: st) M Q := by
  subst hp
  intro p e s m args below meth c hC H locs ls hP hS hl
  exact lv_ishl hC.1 hC.2.1 hd (k p e s m args below meth c hC H locs ls hP hS hl)
theorem V_ishr {x y : Int32} (hd : decode X.1.2.1 pc = .ok (.ishr, 1)) (hp : pc + 1 = pc1) (k : V g X kc ks pc1 lv (.int (x >>> (y &&& 31)) :: st) M Q) : V g X kc ks pc lv (.int y :: .int x :: st) M Q := by
  subst hp
  intro p e s m args below meth c hC H locs ls hP hS hl
  exact lv_ishr hC.1 hC.2.1 hd (k p e s m args below meth c hC H locs ls hP hS hl)
theorem V_idiv {x y : Int32} (hd : decode X.1.2.1 pc = .ok (.idiv, 1)) (hne : ¬ y = 0) (hp : pc + 1 = pc1) (k : V g X kc ks pc1 lv (.int (x / y) :: st) M Q) : V g X kc ks pc lv (.int y :: .int x :: st) M Q := by
  subst hp
  intro p e s m args below meth c hC H locs ls hP hS hl
  exact lv_idiv hC.1 hC.2.1 hd hne (k p e s m args below meth c hC H locs ls hP hS hl)
theorem V_irem {x y : Int32} (hd : decode X.1.2.1 pc = .ok (.irem, 1)) (hne : ¬ y = 0) (hp : pc + 1 = pc1) (k : V g X kc ks pc1 lv (.int (x - x / y * y) :: st) M Q) : V g X kc ks pc lv (.int y :: .int x :: st) M Q := by
  subst hp
  intro p e s m args below meth c hC H locs ls hP hS hl
  exact lv_irem hC.1 hC.2.1 hd hne (k p e s m args below meth c hC H locs ls hP hS hl)
theorem V_iushr {x y : Int32} (hd : decode X.1.2.1 pc = .ok (.iushr, 1)) (hp : pc + 1 = pc1) (k : V g X kc ks pc1 lv (.int ((x.toUInt32 >>> (y.toUInt32 &&& Int32.toUInt32 31)).toInt32) :: st) M Q) : V g X kc ks pc lv (.int y :: .int x :: st) M Q := by
  subst hp
  intro p e s m args below meth c hC H locs ls hP hS hl
  exact lv_iushr hC.1 hC.2.1 hd rfl (k p e s m args below meth c hC H locs ls hP hS hl)
theorem V_ladd {x y : Int64} (hd : decode X.1.2.1 pc = .ok (.ladd, 1)) (hp : pc + 1 = pc1) (k : V g X kc ks pc1 lv (.long (x + y) :: st) M Q) : V g X kc ks pc lv (.long y :: .long x :: st) M Q := by
  subst hp
  intro p e s m args below meth c hC H locs ls hP hS hl
  exact lv_ladd hC.1 hC.2.1 hd (k p e s m args below meth c hC H locs ls hP hS hl)
theorem V_lsub {x y : Int64} (hd : decode X.1.2.1 pc = .ok (.lsub, 1)) (hp : pc + 1 = pc1) (k : V g X kc ks pc1 lv (.long (x - y) :: st) M Q) : V g X kc ks pc lv (.long y :: .long x :: st) M Q := by
  subst hp
  intro p e s m args below meth c hC H locs ls hP hS hl
  exact lv_lsub hC.1 hC.2.1 hd (k p e s m args below meth c hC H locs ls hP hS hl)
theorem V_lmul {x y : Int64} (hd : decode X.1.2.1 pc = .ok (.lmul, 1)) (hp : pc + 1 = pc1) (k : V g X kc ks pc1 lv (.long (x * y) :: st) M Q) : V g X kc ks pc lv (.long y :: .long x :: st) M Q := by
  subst hp
  intro p e s m args below meth c hC H locs ls hP hS hl
  exact lv_lmul hC.1 hC.2.1 hd (k p e s m args below meth c hC H locs ls hP hS hl)
theorem V_land {x y : Int64} (hd : decode X.1.2.1 pc = .ok (.land, 1)) (hp : pc + 1 = pc1) (k : V g X kc ks pc1 lv (.long (x &&& y) :: st) M Q) : V g X kc ks pc lv (.long y :: .long x :: st) M Q := by
  subst hp
  intro p e s m args below meth c hC H locs ls hP hS hl
  exact lv_land hC.1 hC.2.1 hd (k p e s m args below meth c hC H locs ls hP hS hl)
theorem V_lor {x y : Int64} (hd : decode X.1.2.1 pc = .ok (.lor, 1)) (hp : pc + 1 = pc1) (k : V g X kc ks pc1 lv (.long (x ||| y) :: st) M Q) : V g X kc ks pc lv (.long y :: .long x :: st) M Q := by
  subst hp
  intro p e s m args below meth c hC H locs ls hP hS hl
  exact lv_lor hC.1 hC.2.1 hd (k p e s m args below meth c hC H locs ls hP hS hl)
theorem V_lshl {x : Int64} {y : Int32} (hd : decode X.1.2.1 pc = .ok (.lshl, 1)) (hp : pc + 1 = pc1) (k : V g X kc ks pc1 lv (.long (x <<< (y.toInt64 &&& 63)) :: st) M Q) : V g X kc ks pc lv (.int y :: .long x :: st) M Q := by
  subst hp
  intro p e s m args below meth c hC H locs ls hP hS hl
  exact lv_lshl hC.1 hC.2.1 hd rfl (k p e s m args below meth c hC H locs ls hP hS hl)
theorem V_lushr {x : Int64} {y : Int32} (hd : decode X.1.2.1 pc = .ok (.lushr, 1)) (hp : pc + 1 = pc1) (k : V g X kc ks pc1 lv (.long ((x.toUInt64 >>> (y.toInt64.toUInt64 &&& Int64.toUInt64 63)).toInt64) :: st) M Q) : V g X kc ks pc lv (.int y :: .long x :: st) M Q := by
  subst hp
  intro p e s m args below meth c hC H locs ls hP hS hl
  exact lv_lushr hC.1 hC.2.1 hd rfl (k p e s m args below meth c hC H locs ls hP hS hl)
theorem V_i2l {x : Int32} (hd : decode X.1.2.1 pc = .ok (.i2l, 1)) (hp : pc + 1 = pc1) (k : V g X kc ks pc1 lv (.long x.toInt64 :: st) M Q) : V g X kc ks pc lv (.int x :: st) M Q := by
  subst hp
  intro p e s m args below meth c hC H locs ls hP hS hl
  exact lv_i2l hC.1 hC.2.1 hd rfl (k p e s m args below meth c hC H locs ls hP hS hl)
theorem V_l2i {x : Int64} (hd : decode X.1.2.1 pc = .ok (.l2i, 1)) (hp : pc + 1 = pc1) (k : V g X kc ks pc1 lv (.int x.toInt32 :: st) M Q) : V g X kc ks pc lv (.long x :: st) M Q := by
  subst hp
  intro p e s m args below meth c hC H locs ls hP hS hl
  exact lv_l2i hC.1 hC.2.1 hd rfl (k p e s m args below meth c hC H locs ls hP hS hl)
theorem V_lcmp {x y : Int64} (hd : decode X.1.2.1 pc = .ok (.lcmp, 1)) (hp : pc + 1 = pc1) (k : V g X kc ks pc1 lv (.int (lg_cmp x y) :: st) M Q) : V g X kc ks pc lv (.long y :: .long x :: st) M Q := by
  subst hp
  intro p e s m args below meth c hC H locs ls hP hS hl
  exact W.lcmp hC.1 hC.2.1 hd (k p e s m args below meth c hC H locs ls hP hS hl)
theorem V_icmp_eq {x y : Int32} {off : Int} {tgt : Nat} (hd : decode X.1.2.1 pc = .ok (.if_icmp .eq off, 3)) (ht : (pc : Int) + off = (tgt : Int)) (hp : pc + 3 = pc1) (kt : x = y → V g X kc ks tgt lv st M Q) (kf : ¬ x = y → V g X kc ks pc1 lv st M Q) : V g X kc ks pc lv (.int y :: .int x :: st) M Q := by
  subst hp
  intro p e s m args below meth c hC H locs ls hP hS hl
  exact lv_icmp_eq hC.1 hC.2.1 hd ht (fun q => kt q p e s m args below meth c hC H locs ls hP hS hl) (fun q => kf q p e s m args below meth c hC H locs ls hP hS hl)
theorem V_if_eq {x : Int32} {off : Int} {tgt : Nat} (hd : decode X.1.2.1 pc = .ok (.ifCond .eq off, 3)) (ht : (pc : Int) + off = (tgt : Int)) (hp : pc + 3 = pc1) (kt : x = 0 → V g X kc ks tgt lv st M Q) (kf : ¬ x = 0 → V g X kc ks pc1 lv st M Q) : V g X kc ks pc lv (.int x :: st) M Q := by
  subst hp
  intro p e s m args below meth c hC H locs ls hP hS hl
  exact lv_if_eq hC.1 hC.2.1 hd ht (fun q => kt q p e s m args below meth c hC H locs ls hP hS hl) (fun q => kf q p e s m args below meth c hC H locs ls hP hS hl)
theorem V_icmp_ne {x y : Int32} {off : Int} {tgt : Nat} (hd : decode X.1.2.1 pc = .ok (.if_icmp .ne off, 3)) (ht : (pc : Int) + off = (tgt : Int)) (hp : pc + 3 = pc1) (kt : ¬ x = y → V g X kc ks tgt lv st M Q) (kf : x = y → V g X kc ks pc1 lv st M Q) : V g X kc ks pc lv (.int y :: .int x :: st) M Q := by
  subst hp
  intro p e s m args below meth c hC H locs ls hP hS hl
  exact lv_icmp_ne hC.1 hC.2.1 hd ht (fun q => kt q p e s m args below meth c hC H locs ls hP hS hl) (fun q => kf q p e s m args below meth c hC H locs ls hP hS hl)
theorem V_if_ne {x : Int32} {off : Int} {tgt : Nat} (hd : decode X.1.2.1 pc = .ok (.ifCond .ne off, 3)) (ht : (pc : Int) + off = (tgt : Int)) (hp : pc + 3 = pc1) (kt : ¬ x = 0 → V g X kc ks tgt lv st M Q) (kf : x = 0 → V g X kc ks pc1 lv st M Q) : V g X kc ks pc lv (.int x :: st) M Q := by
  subst hp
  intro p e s m args below meth c hC H locs ls hP hS hl
  exact lv_if_ne hC.1 hC.2.1 hd ht (fun q => kt q p e s m args below meth c hC H locs ls hP hS hl) (fun q => kf q p e s m args below meth c hC H locs ls hP hS hl)
theorem V_icmp_lt {x y : Int32} {off : Int} {tgt : Nat} (hd : decode X.1.2.1 pc = .ok (.if_icmp .lt off, 3)) (ht : (pc : Int) + off = (tgt : Int)) (hp : pc + 3 = pc1) (kt : x < y → V g X kc ks tgt lv st M Q) (kf : ¬ x < y → V g X kc ks pc1 lv st M Q) : V g X kc ks pc lv (.int y :: .int x :: st) M Q := by
  subst hp
  intro p e s m args below meth c hC H locs ls hP hS hl
  exact lv_icmp_lt hC.1 hC.2.1 hd ht (fun q => kt q p e s m args below meth c hC H locs ls hP hS hl) (fun q => kf q p e s m args below meth c hC H locs ls hP hS hl)
theorem V_if_lt {x : Int32} {off : Int} {tgt : Nat} (hd : decode X.1.2.1 pc = .ok (.ifCond .lt off, 3)) (ht : (pc : Int) + off = (tgt : Int)) (hp : pc + 3 = pc1) (kt : x < 0 → V g X kc ks tgt lv st M Q) (kf : ¬ x < 0 → V g X kc ks pc1 lv st M Q) : V g X kc ks pc lv (.int x :: st) M Q := by
  subst hp
  intro p e s m args below meth c hC H locs ls hP hS hl
  exact lv_if_lt hC.1 hC.2.1 hd ht (fun q => kt q p e s m args below meth c hC H locs ls hP hS hl) (fun q => kf q p e s m args below meth c hC H locs ls hP hS hl)
theorem V_icmp_ge {x y : Int32} {off : Int} {tgt : Nat} (hd : decode X.1.2.1 pc = .ok (.if_icmp .ge off, 3)) (ht : (pc : Int) + off = (tgt : Int)) (hp : pc + 3 = pc1) (kt : y ≤ x → V g X kc ks tgt lv st M Q) (kf : ¬ y ≤ x → V g X kc ks pc1 lv st M Q) : V g X kc ks pc lv (.int y :: .int x :: st) M Q := by
  subst hp
  intro p e s m args below meth c hC H locs ls hP hS hl
  exact lv_icmp_ge hC.1 hC.2.1 hd ht (fun q => kt q p e s m args below meth c hC H locs ls hP hS hl) (fun q => kf q p e s m args below meth c hC H locs ls hP hS hl)
theorem V_if_ge {x : Int32} {off : Int} {tgt : Nat} (hd : decode X.1.2.1 pc = .ok (.ifCond .ge off, 3)) (ht : (pc : Int) + off = (tgt : Int)) (hp : pc + 3 = pc1) (kt : 0 ≤ x → V g X kc ks tgt lv st M Q) (kf : ¬ 0 ≤ x → V g X kc ks pc1 lv st M Q) : V g X kc ks pc lv (.int x :: st) M Q := by
  subst hp
  intro p e s m args below meth c hC H locs ls hP hS hl
  exact lv_if_ge hC.1 hC.2.1 hd ht (fun q => kt q p e s m args below meth c hC H locs ls hP hS hl) (fun q => kf q p e s m args below meth c hC H locs ls hP hS hl)
theorem V_icmp_gt {x y : Int32} {off : Int} {tgt : Nat} (hd : decode X.1.2.1 pc = .ok (.if_icmp .gt off, 3)) (ht : (pc : Int) + off = (tgt : Int)) (hp : pc + 3 = pc1) (kt : y < x → V g X kc ks tgt lv st M Q) (kf : ¬ y < x → V g X kc ks pc1 lv st M Q) : V g X kc ks pc lv (.int y :: .int x :: st) M Q := by
  subst hp
  intro p e s m args below meth c hC H locs ls hP hS hl
  exact lv_icmp_gt hC.1 hC.2.1 hd ht (fun q => kt q p e s m args below meth c hC H locs ls hP hS hl) (fun q => kf q p e s m args below meth c hC H locs ls hP hS hl)
theorem V_if_gt {x : Int32} {off : Int} {tgt : Nat} (hd : decode X.1.2.1 pc = .ok (.ifCond .gt off, 3)) (ht : (pc : Int) + off = (tgt : Int)) (hp : pc + 3 = pc1) (kt : 0 < x → V g X kc ks tgt lv st M Q) (kf : ¬ 0 < x → V g X kc ks pc1 lv st M Q) : V g X kc ks pc lv (.int x :: st) M Q := by
  subst hp
  intro p e s m args below meth c hC H locs ls hP hS hl
  exact lv_if_gt hC.1 hC.2.1 hd ht (fun q => kt q p e s m args below meth c hC H locs ls hP hS hl) (fun q => kf q p e s m args below meth c hC H locs ls hP hS hl)
theorem V_icmp_le {x y : Int32} {off : Int} {tgt : Nat} (hd : decode X.1.2.1 pc = .ok (.if_icmp .le off, 3)) (ht : (pc : Int) + off = (tgt : Int)) (hp : pc + 3 = pc1) (kt : x ≤ y → V g X kc ks tgt lv st M Q) (kf : ¬ x ≤ y → V g X kc ks pc1 lv st M Q) : V g X kc ks pc lv (.int y :: .int x :: st) M Q := by
  subst hp
  intro p e s m args below meth c hC H locs ls hP hS hl
  exact lv_icmp_le hC.1 hC.2.1 hd ht (fun q => kt q p e s m args below meth c hC H locs ls hP hS hl) (fun q => kf q p e s m args below meth c hC H locs ls hP hS hl)
theorem V_if_le {x : Int32} {off : Int} {tgt : Nat} (hd : decode X.1.2.1 pc = .ok (.ifCond .le off, 3)) (ht : (pc : Int) + off = (tgt : Int)) (hp : pc + 3 = pc1) (kt : x ≤ 0 → V g X kc ks tgt lv st M Q) (kf : ¬ x ≤ 0 → V g X kc ks pc1 lv st M Q) : V g X kc ks pc lv (.int x :: st) M Q := by
  subst hp
  intro p e s m args below meth c hC H locs ls hP hS hl
  exact lv_if_le hC.1 hC.2.1 hd ht (fun q => kt q p e s m args below meth c hC H locs ls hP hS hl) (fun q => kf q p e s m args below meth c hC H locs ls hP hS hl)
theorem V_goto {off : Int} {tgt : Nat} (hd : decode X.1.2.1 pc = .ok (.goto off, 3)) (ht : (pc : Int) + off = (tgt : Int)) (k : V g X kc ks tgt lv st M Q) : V g X kc ks pc lv st M Q := by
  intro p e s m args below meth c hC H locs ls hP hS hl
  exact lv_goto hC.1 hC.2.1 hd ht (k p e s m args below meth c hC H locs ls hP hS hl)
theorem V_tsIn {dflt lo hi : Int} {offs : Array Int} {len : Nat} {x : Int32} {off : Int} {tgt : Nat} (v : Int32) (hx : x = v) (hd : decode X.1.2.1 pc = .ok (.tableswitch dflt lo hi offs, len)) (h1 : ¬ v.toInt < lo) (h2 : ¬ hi < v.toInt) (ho : offs[(v.toInt - lo).toNat]? = some off) (ht : (pc : Int) + off = (tgt : Int)) (k : V g X kc ks tgt lv st M Q) : V g X kc ks pc lv (.int x :: st) M Q := by
  subst hx
  intro p e s m args below meth c hC H locs ls hP hS hl
  exact lv_tableIn hC.1 hC.2.1 hd h1 h2 ho ht (k p e s m args below meth c hC H locs ls hP hS hl)
theorem ts_out {x : Int32} {lo hi : Int} (h : ∀ i : Int, lo ≤ i → i ≤ hi → ¬ x = Int32.ofInt i) : x.toInt < lo ∨ hi < x.toInt := by
  by_cases h1 : x.toInt < lo
  · exact Or.inl h1
  · by_cases h2 : hi < x.toInt
    · exact Or.inr h2
    · exact absurd (Int32.ofInt_toInt x).symm (h x.toInt (by omega) (by omega))
theorem V_tsOut {dflt lo hi : Int} {offs : Array Int} {len : Nat} {x : Int32} {tgt : Nat} (hd : decode X.1.2.1 pc = .ok (.tableswitch dflt lo hi offs, len)) (hx : ∀ i : Int, lo ≤ i → i ≤ hi → ¬ x = Int32.ofInt i) (ht : (pc : Int) + dflt = (tgt : Int)) (k : V g X kc ks tgt lv st M Q) : V g X kc ks pc lv (.int x :: st) M Q := by
  intro p e s m args below meth c hC H locs ls hP hS hl
  exact lv_tableOut hC.1 hC.2.1 hd (ts_out hx) ht (k p e s m args below meth c hC H locs ls hP hS hl)
/-- a field's link: the class's number, the slot -/
def fOK (own : String) (idx ci j : Nat) : Prop := ∃ q : vw_C, xC[ci]? = some q ∧ j < q.2.2 ∧ (Cond.fieldLink own idx (q.2.1 j).1 (q.2.1 j).2.1 (q.2.1 j).2.2.1) ∈ xT
def xFin (ci j : Nat) : Bool := match xC[ci]? with
  | some q => (q.2.1 j).2.2.2
  | none => false
def xDcl (ci j : Nat) : String := match xC[ci]? with
  | some q => (q.2.1 j).1
  | none => ""
theorem V_get {k ci j idx : Nat} {v : Value} (hl0 : lay k = (0, ci)) (hk : k < M.2.2.2) (hf : fOK X.1.1.cls idx ci j) (hv : xF g M k j (xTy ci j) = v) (hd : decode X.1.2.1 pc = .ok (.getfield idx, 3)) (hp : pc + 3 = pc1) (kk : V g X kc ks pc1 lv (v :: st) M Q) : V g X kc ks pc lv (.ref (xA g k) :: st) M Q := by
  subst hp
  intro p e s m args below meth c hC H locs ls hP hS hl
  obtain ⟨⟨C, T, N⟩, h1, h2, h3⟩ := hf
  obtain ⟨h4, h5, -, -⟩ := xC_ok ci _ h1
  have h2 : j < N := h2
  have h4 : N = xN ci := h4
  refine va_get (D := g.2.1) (ci := ci) (v := v) (C := C) (T := T) (N := N) hC.1 hC.2.1 hC.2.2.2.2.2.2.2.1 h5 hC.2.2.2.2.2.1 hC.2.2.2.2.2.2.2.2.1.1 hP.2 k ((xW_get hk).trans (by rw [xE_obj hl0])) h1 j h2 (hC.2.2.2.2.2.2.2.1 _ h3) (fun _ h => h) ?_ hd (kk p e s m args below meth c hC H locs ls hP hS hl)
  rw [xFs_get (h4 ▸ h2), hv]
theorem xP_set {M' : MemT} {k : Nat} {H H1 : Heap} {e0 : va_E} (hP : xP g M H) (hk : k < M.2.2.2) (hn : M'.2.2.2 = M.2.2.2) (h : ∀ j, j ≠ k → xE g M' j = xE g M j) (he : va_at g.2.1 xC (xA g k, xE g M' k) H1) (z : H1.size = H.size) (oq : ∀ q : Nat, q ≠ xA g k → H1[q]? = H[q]?) : xP g M' H1 := by
  refine ⟨fun hh => ?_, ?_⟩
  · rw [z, hn]
    exact hP.1 (by rw [← hn]; exact hh)
  · rw [← xW_set hn h]
    exact hP.2.set (xW_D g M) (xW_get hk) he oq
theorem V_putx {k ci j idx : Nat} {x : Value} {M' : MemT} (hl0 : lay k = (0, ci)) (hk : k < M.2.2.2) (hf : fOK X.1.1.cls idx ci j) (hfin : xFin ci j = false ∨ (xFin ci j = true ∧ X.1.1.name = "<init>" ∧ xDcl ci j = X.1.1.cls)) (hn : narrow (xTy ci j) x = x) (hfit : fits (xTy ci j) x = true) (hM : M'.2.2.2 = M.2.2.2) (ho : ∀ i, i ≠ k → xE g M' i = xE g M i) (hv : xF g M' k j (xTy ci j) = x) (hs : ∀ i, i ≠ j → xF g M' k i (xTy ci i) = xF g M k i (xTy ci i))
    (hd : decode X.1.2.1 pc = .ok (.putfield idx, 3)) (hp : pc + 3 = pc1) (kk : V g X kc ks pc1 lv st M' Q) : V g X kc ks pc lv (x :: .ref (xA g k) :: st) M Q := by
  subst hp
  intro p e s m args below meth c hC H locs ls hP hS0 hl
  obtain ⟨hexec, hb, -, -, -, hown, hnm0, hts, hKK, -⟩ := id hC
  obtain ⟨⟨C, T, N⟩, hc, h2, h3⟩ := hf
  obtain ⟨h4, hin, hty, hnm⟩ := xC_ok ci _ hc
  have h2 : j < N := h2
  have h4 : N = xN ci := h4
  have hK := hKK.1
  have hap := va_apart (own := X.1.1.cls) hts hin (xTy ci) hty hnm hK hc
  have he : (xW g M)[k]? = some (xA g k, .inr (ci, xFs g M k ci)) := (xW_get hk).trans (by rw [xE_obj hl0])
  obtain ⟨r, h1, cell, q1, q2, q3, q4⟩ := hP.2 k _ he
  have hr : r = (C, T, N) := Option.some.inj (h1.symm.trans hc)
  subst hr
  obtain ⟨hS, hfc, kC, hkC, hkind⟩ := hK.1 ci _ hc
  obtain ⟨cf, kf, fi, f, hi, hsl⟩ := hS j h2
  have hlay := hts _ (hin _ (u_in_lay h2))
  unfold u_lay at hlay
  have hst := (u_facts hfc hkC (u_lays hts hin h2) hi).1
  have hjl : j < (xFs g M k ci).length := by rw [xFs_len, ← h4]; exact h2
  have goal : ∀ (H' : Heap) (l1 : List Loc), H'[xA g k]? = some (cell.setSlot f.slot x) → H'.size = H.size → (∀ q, q ≠ xA g k → H'[q]? = H[q]?) → l1 = locs ++ [⟨xA g k, f.slot⟩] → W p g.1 e (xR X) s m args below meth c H' l1 kc ks (MQ below (xQ g Q) args s X.2.2.1 X.2.2.2 (xFr g)) (F0 m (pc + 3) ls st) := by
    intro H' l1 e1 e2 e3 el
    subst el
    rw [hsl] at e1 ⊢
    refine kk p e s m args below meth c hC H' _ ls (xP_set (e0 := .inr (ci, [])) hP hk hM ho ?_ e2 e3) (hS0.put e2 e3 (xFr_A g k)) hl
    rw [xE_obj hl0, ← xFs_set hv hs]
    exact ⟨_, hc, t_OB.to (V := updV (vp_V (xFs g M k ci)) j x) ⟨_, e1, q2, q3, t_set q4 hap h2 x⟩ (fun i _ => vp_updV_set hjl x i)⟩
  have ef : xFin ci j = (T j).2.2.2 := by unfold xFin; rw [hc]
  have ed : xDcl ci j = (T j).1 := by unfold xDcl; rw [hc]
  rcases hfin with hfin | ⟨hfin, hini, hdecl⟩
  · rw [ef] at hfin
    rw [if_neg (by rw [hfin]; decide)] at hlay
    have h6 := u_store hfc hkC hkind hlay hi (hty j h2) hn hfit
    exact W.putK hexec hb (f := f) ⟨hown, hts _ h3, ⟨_, _, _, hi⟩, hst⟩ (by rw [q2]; exact h6) q1 q3 (by rw [hsl]; exact k2_hasslot (q4 j h2)) rfl rfl hd fun H' e1 e2 e3 => goal H' _ e1 e2 e3 rfl
  · rw [ef] at hfin
    rw [ed] at hdecl
    rw [if_pos hfin] at hlay
    have hcf : m.cls = cf := by
      obtain ⟨_, _, c', _, _, _, -, -, hf', -, -, -, hown2, -⟩ := Cond.laysFinal_spec hlay
      have e1 : c' = cf := by have := hi.symm.trans hf'; simp at this; exact this.1.symm
      rw [hdecl] at hown2
      rw [← e1]; exact Option.some.inj (hown.symm.trans hown2)
    have h6 := u_fits hfc hkC hkind (Or.inr hlay) hi (hty j h2) hn hfit
    exact W.putFinK hexec hb hown (hts _ h3) hi hst hcf (hnm0.trans hini) (by rw [q2]; exact h6) q1 q3 (by rw [hsl]; exact k2_hasslot (q4 j h2)) rfl rfl hd fun H' e1 e2 e3 => goal H' _ e1 e2 e3 rfl
theorem xF_ne {M' : MemT} {k i : Nat} {ty : FieldType} (h1 : M'.1 k i = M.1 k i) (h2 : M'.2.1 k i = M.2.1 k i) (h3 : M'.2.2.1 k i = M.2.2.1 k i) : xF g M' k i ty = xF g M k i ty := by
  unfold xF
  rw [h1, h2, h3]
theorem V_puti {k ci j idx : Nat} {x : Int32} {I : Nat → Nat → Int32} {L : Nat → Nat → Int64} {RN : (Nat → Nat → Option Nat) × Nat} (hl0 : lay k = (0, ci)) (hk : k < RN.2) (hf : fOK X.1.1.cls idx ci j) (hfin : xFin ci j = false) (hty : xTy ci j = .int) (hd : decode X.1.2.1 pc = .ok (.putfield idx, 3)) (hp : pc + 3 = pc1) (kk : V g X kc ks pc1 lv st (uI I k j x, L, RN) Q) : V g X kc ks pc lv (.int x :: .ref (xA g k) :: st) (I, L, RN) Q := by
  refine V_putx (M' := (uI I k j x, L, RN)) hl0 hk hf (Or.inl hfin) ?_ ?_ rfl (fun i hi => xE_congr (uI_off I j x hi) rfl rfl) ?_ (fun i hi => xF_ne (uI_ne I k x hi) rfl rfl) hd hp kk
  · rw [hty]; rfl
  · rw [hty]; rfl
  · rw [hty]
    show Value.int (uI I k j x k j) = _
    rw [uI_self]
theorem V_putz {k ci j idx : Nat} {x : Int32} {I : Nat → Nat → Int32} {L : Nat → Nat → Int64} {RN : (Nat → Nat → Option Nat) × Nat} (hl0 : lay k = (0, ci)) (hk : k < RN.2) (hf : fOK X.1.1.cls idx ci j) (hfin : xFin ci j = false) (hty : xTy ci j = .boolean) (hx : x = 0 ∨ x = 1) (hd : decode X.1.2.1 pc = .ok (.putfield idx, 3)) (hp : pc + 3 = pc1) (kk : V g X kc ks pc1 lv st (uI I k j x, L, RN) Q) : V g X kc ks pc lv (.int x :: .ref (xA g k) :: st) (I, L, RN) Q := by
  refine V_putx (M' := (uI I k j x, L, RN)) hl0 hk hf (Or.inl hfin) ?_ ?_ rfl (fun i hi => xE_congr (uI_off I j x hi) rfl rfl) ?_ (fun i hi => xF_ne (uI_ne I k x hi) rfl rfl) hd hp kk
  · rw [hty]; rcases hx with rfl | rfl <;> decide
  · rw [hty]; rcases hx with rfl | rfl <;> decide
  · rw [hty]
    show Value.int (uI I k j x k j) = _
    rw [uI_self]
theorem V_putl {k ci j idx : Nat} {x : Int64} {I : Nat → Nat → Int32} {L : Nat → Nat → Int64} {RN : (Nat → Nat → Option Nat) × Nat} (hl0 : lay k = (0, ci)) (hk : k < RN.2) (hf : fOK X.1.1.cls idx ci j) (hfin : xFin ci j = false) (hty : xTy ci j = .long) (hd : decode X.1.2.1 pc = .ok (.putfield idx, 3)) (hp : pc + 3 = pc1) (kk : V g X kc ks pc1 lv st (I, uL L k j x, RN) Q) : V g X kc ks pc lv (.long x :: .ref (xA g k) :: st) (I, L, RN) Q := by
  refine V_putx (M' := (I, uL L k j x, RN)) hl0 hk hf (Or.inl hfin) ?_ ?_ rfl (fun i hi => xE_congr rfl (uL_off L j x hi) rfl) ?_ (fun i hi => xF_ne rfl (uL_ne L k x hi) rfl) hd hp kk
  · rw [hty]; rfl
  · rw [hty]; rfl
  · rw [hty]
    show Value.long (uL L k j x k j) = _
    rw [uL_self]
/-- a final reference, in a constructor -/
theorem V_putr {k ci j idx t : Nat} {I : Nat → Nat → Int32} {L : Nat → Nat → Int64} {R : Nat → Nat → Option Nat} {n : Nat} (hl0 : lay k = (0, ci)) (hk : k < n) (hf : fOK X.1.1.cls idx ci j) (hfin : xFin ci j = true ∧ X.1.1.name = "<init>" ∧ xDcl ci j = X.1.1.cls) (hty : ∀ v, xF g (I, L, R, n) k j (xTy ci j) = v → (∃ C, xTy ci j = .object C) ∨ (∃ C, xTy ci j = .array C)) (hd : decode X.1.2.1 pc = .ok (.putfield idx, 3)) (hp : pc + 3 = pc1) (kk : V g X kc ks pc1 lv st (I, L, uR R k j (some t), n) Q) : V g X kc ks pc lv (.ref (xA g t) :: .ref (xA g k) :: st) (I, L, R, n) Q := by
  have h0 := hty _ rfl
  refine V_putx (M' := (I, L, uR R k j (some t), n)) hl0 hk hf (Or.inr hfin) ?_ ?_ rfl (fun i hi => xE_congr rfl rfl (uR_off R j _ hi)) ?_ (fun i hi => xF_ne rfl rfl (uR_ne R k _ hi)) hd hp kk
  · rcases h0 with ⟨C, h⟩ | ⟨C, h⟩ <;> rw [h] <;> rfl
  · rcases h0 with ⟨C, h⟩ | ⟨C, h⟩ <;> rw [h] <;> rfl
  · rcases h0 with ⟨C, h⟩ | ⟨C, h⟩
    · rw [h]
      show va_rf ((uR R k j (some t) k j).map (xA g)) = _
      rw [uR_self]; rfl
    · rw [h]
      show va_rf ((uR R k j (some t) k j).map (xA g)) = _
      rw [uR_self]; rfl
-- arrays
theorem V_iald {k n : Nat} (j : Nat) {i : Int32} (hl0 : lay k = (1, n)) (hk : k < M.2.2.2) (hi : i = nI j) (hj : j < n) {v : Int32} (hv : M.1 k j = v) (hd : decode X.1.2.1 pc = .ok (.iaload, 1)) (hp : pc + 1 = pc1) (kk : V g X kc ks pc1 lv (.int v :: st) M Q) : V g X kc ks pc lv (.int i :: .ref (xA g k) :: st) M Q := by
  subst hp; subst hi; subst hv
  have hs : n < 2 ^ 31 := by have := lay_small k; rw [hl0] at this; exact this
  intro p e s m args below meth c hC H locs ls hP hS hl
  refine va_iald (D := g.2.1) hC.1 hC.2.1 hC.2.2.2.2.2.2.2.2.1.1 hP.2 k 0 ((xW_get hk).trans (by rw [xE_int hl0])) rfl (vp_in_nI hj hs) hd ?_
  rw [nI_clamp (by omega)]
  exact kk p e s m args below meth c hC H locs ls hP hS hl
theorem V_zald {k n : Nat} (j : Nat) {i : Int32} (hl0 : lay k = (2, n)) (hk : k < M.2.2.2) (hi : i = nI j) (hj : j < n) {v : Int32} (hv : M.1 k j = v) (hd : decode X.1.2.1 pc = .ok (.baload, 1)) (hp : pc + 1 = pc1) (kk : V g X kc ks pc1 lv (.int v :: st) M Q) : V g X kc ks pc lv (.int i :: .ref (xA g k) :: st) M Q := by
  subst hp; subst hi; subst hv
  have hs : n < 2 ^ 31 := by have := lay_small k; rw [hl0] at this; exact this
  intro p e s m args below meth c hC H locs ls hP hS hl
  refine va_zald (D := g.2.1) hC.1 hC.2.1 hC.2.2.2.2.2.2.2.2.1.1 hP.2 k 1 ((xW_get hk).trans (by rw [xE_boo hl0])) rfl (vp_in_nI hj hs) hd ?_
  rw [nI_clamp (by omega)]
  exact kk p e s m args below meth c hC H locs ls hP hS hl
theorem V_aald {k n a : Nat} (j t : Nat) {i : Int32} (hl0 : lay k = (a, n)) (ha : a = 3 ∨ a = 4) (hk : k < M.2.2.2) (hi : i = nI j) (hj : j < n) (hv : M.2.2.1 k j = some t) (hd : decode X.1.2.1 pc = .ok (.aaload, 1)) (hp : pc + 1 = pc1) (kk : V g X kc ks pc1 lv (.ref (xA g t) :: st) M Q) : V g X kc ks pc lv (.int i :: .ref (xA g k) :: st) M Q := by
  subst hp; subst hi
  have hs : n < 2 ^ 31 := by have := lay_small k; rw [hl0] at this; exact this
  intro p e s m args below meth c hC H locs ls hP hS hl
  rcases ha with rfl | rfl
  · refine va_aldq (D := g.2.1) hC.1 hC.2.1 hC.2.2.2.2.2.2.2.2.1.1 hP.2 k 2 ((xW_get hk).trans (by rw [xE_bus hl0])) rfl (vp_in_nI hj hs) hd ?_
    rw [nI_clamp (by omega), hv]
    exact kk p e s m args below meth c hC H locs ls hP hS hl
  · refine va_aldq (D := g.2.1) hC.1 hC.2.1 hC.2.2.2.2.2.2.2.2.1.1 hP.2 k 3 ((xW_get hk).trans (by rw [xE_nod hl0])) rfl (vp_in_nI hj hs) hd ?_
    rw [nI_clamp (by omega), hv]
    exact kk p e s m args below meth c hC H locs ls hP hS hl
theorem V_iast {k n : Nat} (j : Nat) {i x : Int32} {I : Nat → Nat → Int32} {L : Nat → Nat → Int64} {RN : (Nat → Nat → Option Nat) × Nat} (hl0 : lay k = (1, n)) (hk : k < RN.2) (hi : i = nI j) (hj : j < n) (hd : decode X.1.2.1 pc = .ok (.iastore, 1)) (hp : pc + 1 = pc1) (kk : V g X kc ks pc1 lv st (uI I k j x, L, RN) Q) : V g X kc ks pc lv (.int x :: .int i :: .ref (xA g k) :: st) (I, L, RN) Q := by
  subst hp; subst hi
  have hs : n < 2 ^ 31 := by have := lay_small k; rw [hl0] at this; exact this
  intro p e s m args below meth c hC H locs ls hP hS hl
  have hin := vp_in_nI hj hs
  have ha : (xW g (I, L, RN))[k]? = some (xA g k, .inl (g.2.2.2.1, n, .inl (I k))) := (xW_get hk).trans (by rw [xE_int hl0])
  refine W.iast hC.1 hC.2.1 (hP.2 k _ ha) ((hC.2.2.2.2.2.2.2.2.1.1.2 0 _ rfl).1 n (fun j => .int (I k j))) (fun q => by cases q) (by show ¬ (_ < 0 ∨ (arrV _ _ _).slots.size ≤ _); rw [arrV_size]; exact hin) rfl rfl hd fun H1 e1 z oq => ?_
  refine kk p e s m args below meth c hC H1 _ ls (xP_set (M' := (uI I k j x, L, RN)) (e0 := .inr (0, [])) hP hk rfl (fun i hi => xE_congr (uI_off I j x hi) rfl rfl) ?_ z oq) (hS.put z oq (xFr_A g k)) hl
  rw [xE_int hl0]
  show H1[xA g k]? = some (vp_cell _ _)
  rw [e1, vp_cell_i, vp_cell_i, arrV_store]
  congr 2
  funext q
  show _ = Value.int (uI I k j x k q)
  rw [uI_row, nI_clamp (by omega)]
  by_cases hq : q = j
  · subst hq
    simp [updV, upd]
  · simp [updV, upd, hq]
theorem V_zast {k n : Nat} (j : Nat) {i x : Int32} {I : Nat → Nat → Int32} {L : Nat → Nat → Int64} {RN : (Nat → Nat → Option Nat) × Nat} (hl0 : lay k = (2, n)) (hk : k < RN.2) (hi : i = nI j) (hj : j < n) (hx : x = 0 ∨ x = 1) (hd : decode X.1.2.1 pc = .ok (.bastore, 1)) (hp : pc + 1 = pc1) (hN : RN.2 = 305) (kk : V g X kc ks pc1 lv st (uI I k j x, L, RN) Q) : V g X kc ks pc lv (.int x :: .int i :: .ref (xA g k) :: st) (I, L, RN) Q := by
  subst hp; subst hi
  have hs : n < 2 ^ 31 := by have := lay_small k; rw [hl0] at this; exact this
  intro p e s m args below meth c hC H locs ls hP hS hl
  refine va_zast (D := g.2.1) hC.1 hC.2.1 hC.2.2.2.2.2.2.2.2.1.1 hP.2 (xW_D g _) hS k 1 ((xW_get hk).trans (by rw [xE_boo hl0])) rfl (vp_in_nI hj hs) hd fun H1 locs1 hP1 hD1 hS1 => ?_
  have hxn : vp_nar .boolean x = x := by rcases hx with rfl | rfl <;> decide
  refine kk p e s m args below meth c hC H1 _ ls ⟨fun h => absurd h (by show ¬ RN.2 < 305; omega), ?_⟩ hS1 hl
  rw [hxn, nI_clamp (by omega)] at hP1
  rw [← xW_set (M := (I, L, RN)) (M' := (uI I k j x, L, RN)) (k := k) rfl (fun i hi => xE_congr (uI_off I j x hi) rfl rfl), xE_boo hl0]
  show va_P _ _ (List.set _ _ (_, .inl (_, n, .inl (uI I k j x k)))) _
  rw [uI_row]
  exact hP1
theorem V_alen {k n a : Nat} {v : Int32} (hl0 : lay k = (1, n)) (hk : k < M.2.2.2) (hv : nI n = v) (hd : decode X.1.2.1 pc = .ok (.arraylength, 1)) (hp : pc + 1 = pc1) (kk : V g X kc ks pc1 lv (.int v :: st) M Q) : V g X kc ks pc lv (.ref (xA g k) :: st) M Q := by
  subst hp; subst hv
  intro p e s m args below meth c hC H locs ls hP hS hl
  exact va_alen (D := g.2.1) (x := (n, .inl (M.1 k))) hC.1 hC.2.1 hC.2.2.2.2.2.2.2.2.1.1 hP.2 k 0 ((xW_get hk).trans (by rw [xE_int hl0])) rfl rfl hd (kk p e s m args below meth c hC H locs ls hP hS hl)
-- returns
theorem V_iret {v : Int32} (hr : X.1.2.2.2 = some .int) (hd : decode X.1.2.1 pc = .ok (.ireturn, 1)) (h1 : kc ≤ X.2.2.1) (h2 : ks ≤ X.2.2.2) (hq : Q (some (.int v)) M) : V g X kc ks pc lv [.int v] M Q := by
  intro p e s m args below meth c hC H locs ls hP hS hl
  have hlk : meth.locks = false := hC.2.2.2.2.1
  refine W.widen (k := X.2.2.1) (n := X.2.2.2) h1 h2 ?_
  exact W.iret hC.1 hC.2.1 (hC.2.2.2.1.trans hr) (fun t ht hW => ⟨some (.int v), M, rfl, hq, by rw [ht]; exact hP, hS.F ht⟩) hS.2.2 hd hlk
theorem V_zret {v : Int32} (hr : X.1.2.2.2 = some .boolean) (hx : v = 0 ∨ v = 1) (hd : decode X.1.2.1 pc = .ok (.ireturn, 1)) (h1 : kc ≤ X.2.2.1) (h2 : ks ≤ X.2.2.2) (hq : Q (some (.int v)) M) : V g X kc ks pc lv [.int v] M Q := by
  intro p e s m args below meth c hC H locs ls hP hS hl
  have hlk : meth.locks = false := hC.2.2.2.2.1
  refine W.widen (k := X.2.2.1) (n := X.2.2.2) h1 h2 ?_
  exact W.zret hC.1 hC.2.1 (hC.2.2.2.1.trans hr) (by rcases hx with rfl | rfl <;> decide) (fun t ht hW => ⟨some (.int v), M, rfl, hq, by rw [ht]; exact hP, hS.F ht⟩) hS.2.2 hd hlk
theorem V_lret {v : Int64} (hr : X.1.2.2.2 = some .long) (hd : decode X.1.2.1 pc = .ok (.lreturn, 1)) (h1 : kc ≤ X.2.2.1) (h2 : ks ≤ X.2.2.2) (hq : Q (some (.long v)) M) : V g X kc ks pc lv [.long v] M Q := by
  intro p e s m args below meth c hC H locs ls hP hS hl
  have hlk : meth.locks = false := hC.2.2.2.2.1
  refine W.widen (k := X.2.2.1) (n := X.2.2.2) h1 h2 ?_
  exact W.lret hC.1 hC.2.1 (hC.2.2.2.1.trans hr) (fun t ht hW => ⟨some (.long v), M, rfl, hq, by rw [ht]; exact hP, hS.F ht⟩) hS.2.2 hd hlk
theorem V_vret (hr : X.1.2.2.2 = none) (hd : decode X.1.2.1 pc = .ok (.return_, 1)) (h1 : kc ≤ X.2.2.1) (h2 : ks ≤ X.2.2.2) (hq : Q none M) : V g X kc ks pc lv [] M Q := by
  intro p e s m args below meth c hC H locs ls hP hS hl
  have hlk : meth.locks = false := hC.2.2.2.2.1
  refine W.widen (k := X.2.2.1) (n := X.2.2.2) h1 h2 ?_
  exact W.vret hC.1 hC.2.1 (hC.2.2.2.1.trans hr) (fun t ht hW => ⟨none, M, rfl, hq, by rw [ht]; exact hP, hS.F ht⟩) hS.2.2 hd hlk

-- calls
theorem xGood {w0 : Cond} (h : w0 ∈ xT) : GoodIn xT (w0 :: xT) := by
  intro w hw
  rcases List.mem_cons.mp hw with e | e
  · rw [e]; exact ⟨h, good_of_word (xT_good _ h)⟩
  · exact ⟨e, good_of_word (xT_good _ e)⟩
/-- what the tables say of a method that is called: its code, its class -/
def mOK (K : KT) (n : Nat) : Prop := Cond.code K.1 K.2.1 K.2.2.1 K.2.2.2 ∈ xT ∧ Cond.initialized K.1.cls ∈ xT ∧ (K.1.cls ≠ "java/lang/invoke/MethodHandle" ∧ K.1.cls ≠ "java/lang/invoke/VarHandle" ∧ (parseMethodDescriptor K.1.desc).map (fun d => d.parameters.length) = some n)
def mV (K : KT) (n ci : Nat) : Prop := mOK K n ∧ Cond.instanceMethod K.1 ∈ xT ∧ Cond.selects K.1.cls K.1 K.1 ∈ xT ∧ ∃ q : vw_C, xC[ci]? = some q ∧ q.1 = K.1.cls
def mS (K : KT) (n : Nat) : Prop := mOK K n ∧ Cond.static K.1 ∈ xT
def mI (K : KT) (n : Nat) : Prop := mOK K n ∧ Cond.instanceMethod K.1 ∈ xT ∧ K.1.name = "<init>" ∧ K.2.2.2 = none
/-- the callee's room is within the caller's -/
def rOK (X Y : XT) (kc ks : Nat) : Prop := Y.2.1 + 1 ≤ X.2.1 ∧ 8 + (Y.1.2.2.1 + 11) + 37 * Y.2.1 ≤ 37 * X.2.1 ∧ kc + Y.2.2.1 ≤ X.2.2.1 ∧ ks + Y.2.2.2 ≤ X.2.2.2
theorem xBlind {As : List Value} : FrameBlind (va_Pc As fun U => xP g M U.heap ∧ xK g U ∧ g.2.2.1 ≤ U.heap.size) := fun a U gf mk q => ⟨q.1, q.2.1, xK.same (s := U) rfl q.2.2.1, q.2.2.2⟩
theorem V_run {Y : XT} {Qc : Option Value → MemT → Prop} {a : Array Value} {p : Program} {e : Env} {s : State} {m : MethodId} {args : Array Value} {below : List Frame} {meth : Method} {c : Code} (hC : xCx g X p s m args meth c) {H : Heap} {locs : List Loc} {ls : Array Slot} (hS : va_S (xFr g) s.heap H locs) (hl : lv_has ls X.1.2.2.1 lv)
    (hr : va_Run p g.1 e (xR X) s m args below meth c H locs kc ks Y.2.2.1 Y.2.2.2 (F0 m pc ls stk) st (xQ g Qc a) (xFr g)) (kk : ∀ r M', Qc r M' → V g X (kc + Y.2.2.1) (ks + Y.2.2.2) (pc + 3) lv (r.toList ++ st) M' Q) : W p g.1 e (xR X) s m args below meth c H locs kc ks (MQ below (xQ g Q) args s X.2.2.1 X.2.2.2 (xFr g)) (F0 m pc ls stk) := by
  intro T hT Y0
  obtain ⟨v, st₀, t, T', L, h0, X', hL, e1, e2, ⟨r, M', hv, hq, hP1, hz, hk⟩, go⟩ := hr T hT Y0
  cases hv
  rw [h0] at hz hk
  obtain ⟨t2, a1, b1⟩ := kk _ M' hq p e s m args below meth c hC T'.heap (locs ++ L) ls (by rw [e1]; exact hP1) ⟨Nat.le_trans hS.1 (by rw [e1]; exact hz), fun q h1 h2 => by rw [e1, hk q (Nat.lt_of_lt_of_le h1 hS.1) h2]; exact hS.2.1 q h1 h2, fun q hq => by
      rcases List.mem_append.mp hq with h | h
      · exact hS.2.2 q h
      · exact hL q h⟩ hl T' rfl X'
  exact ⟨t2, go t2 a1, b1⟩
theorem V_callV {Y : XT} {As : List Value} {k ci idx n : Nat} {Qc : Option Value → MemT → Prop} (hc : Call g Y (.ref (xA g k) :: As) M Qc) (hl0 : lay k = (0, ci)) (hk : k < M.2.2.2) (hm : mV Y.1 n ci) (hlk : Cond.methodLink X.1.1.cls idx Y.1.1 ∈ xT) (hn : As.length = n) (hR : rOK X Y kc ks) (hsum : (st.map fun v => v.category).sum ≤ 8) (hst : stk = As.reverse ++ .ref (xA g k) :: st) (hd : decode X.1.2.1 pc = .ok (.invokevirtual idx, 3)) (hp : pc + 3 = pc1)
    (kk : ∀ r M', Qc r M' → V g X (kc + Y.2.2.1) (ks + Y.2.2.2) pc1 lv (r.toList ++ st) M' Q) : V g X kc ks pc lv stk M Q := by
  subst hp
  intro p e s m args below meth c hC H locs ls hP hS hl
  obtain ⟨⟨hcode, hini, hd3⟩, hin, hsel, q, hq, hqn⟩ := hm
  obtain ⟨hexec, hb, hml, -, -, hown, -, hts, hKK, hz⟩ := id hC
  refine V_run hC hS hl (va_runV (C := Y.1.1.cls) (As := As) (rest := st) ⟨hexec, hb, hml, hown, hts⟩ hc ⟨callB_of n hts (xGood hcode) rfl rfl rfl (hts _ hini) (hts _ hlk) hd3 ⟨hR.1, hR.2.1⟩, hts _ hin, hts _ hsel⟩ ⟨xBlind, ?_, fun U hU hW => ⟨rfl, by rw [hU]; exact hP, xK.warm hW hKK, by rw [hU]; exact Nat.le_trans hz hS.1⟩⟩ rfl hn hl.1 hst (lv_room hsum) hd ⟨hR.2.2.1, hR.2.2.2⟩) kk
  obtain ⟨cell, h1, h2, h3⟩ := va_recv hKK.1 hP.2 hq ((xW_get hk).trans (by rw [xE_obj hl0]))
  exact ⟨cell, h1, h2, by rw [← hqn]; exact h3⟩
theorem V_callS {Y : XT} {As : List Value} {idx n : Nat} {Qc : Option Value → MemT → Prop} (hc : Call g Y As M Qc) (hm : mS Y.1 n) (hlk : Cond.methodLink X.1.1.cls idx Y.1.1 ∈ xT) (hn : As.length = n) (hR : rOK X Y kc ks) (hsum : (st.map fun v => v.category).sum ≤ 8) (hst : stk = As.reverse ++ st) (hd : decode X.1.2.1 pc = .ok (.invokestatic idx, 3)) (hp : pc + 3 = pc1)
    (kk : ∀ r M', Qc r M' → V g X (kc + Y.2.2.1) (ks + Y.2.2.2) pc1 lv (r.toList ++ st) M' Q) : V g X kc ks pc lv stk M Q := by
  subst hp
  intro p e s m args below meth c hC H locs ls hP hS hl
  obtain ⟨⟨hcode, hini, hd3⟩, hstt⟩ := hm
  obtain ⟨hexec, hb, hml, -, -, hown, -, hts, hKK, hz⟩ := id hC
  exact V_run hC hS hl (va_runS (As := As) (rest := st) ⟨hexec, hb, hml, hown, hts⟩ hc ⟨callB_of n hts (xGood hcode) rfl rfl rfl (hts _ hini) (hts _ hlk) hd3 ⟨hR.1, hR.2.1⟩, hts _ hstt⟩ ⟨xBlind, fun U hU hW => ⟨rfl, by rw [hU]; exact hP, xK.warm hW hKK, by rw [hU]; exact Nat.le_trans hz hS.1⟩⟩ rfl hn hl.1 hst (lv_room hsum) hd ⟨hR.2.2.1, hR.2.2.2⟩) kk
theorem V_callSN {Y : XT} {As : List Value} {idx n : Nat} {host : String} {Qc : Option Value → MemT → Prop} (hc : Call g Y As M Qc) (hm : mS Y.1 n) (hlk : Cond.methodLinkNest X.1.1.cls idx Y.1.1 host ∈ xNest) (hn : As.length = n) (hR : rOK X Y kc ks) (hsum : (st.map fun v => v.category).sum ≤ 8) (hst : stk = As.reverse ++ st) (hd : decode X.1.2.1 pc = .ok (.invokestatic idx, 3)) (hp : pc + 3 = pc1)
    (kk : ∀ r M', Qc r M' → V g X (kc + Y.2.2.1) (ks + Y.2.2.2) pc1 lv (r.toList ++ st) M' Q) : V g X kc ks pc lv stk M Q := by
  subst hp
  intro p e s m args below meth c hC H locs ls hP hS hl
  obtain ⟨⟨hcode, hini, hd3⟩, hstt⟩ := hm
  obtain ⟨hexec, hb, hml, -, -, hown, -, hts, hKK, hz⟩ := id hC
  exact V_run hC hS hl (va_runSN (As := As) (rest := st) ⟨hexec, hb, hml, hown, hts⟩ hc ⟨va_cnB n hts (xGood hcode) rfl rfl rfl (hKK.2.1 _ hlk) (hts _ hini) hd3 ⟨hR.1, hR.2.1⟩, hts _ hstt, trivial⟩ ⟨xBlind, fun U hU hW => ⟨rfl, by rw [hU]; exact hP, xK.warm hW hKK, by rw [hU]; exact Nat.le_trans hz hS.1⟩⟩ rfl hn hl.1 hst (lv_room hsum) hd ⟨hR.2.2.1, hR.2.2.2⟩) kk
theorem V_callI {Y : XT} {As : List Value} {b idx n : Nat} {Qc : Option Value → MemT → Prop} (hc : Call g Y (.ref b :: As) M Qc) (hm : mI Y.1 n) (hlk : Cond.methodLink X.1.1.cls idx Y.1.1 ∈ xT) (hn : As.length = n) (hR : rOK X Y kc ks) (hsum : (st.map fun v => v.category).sum ≤ 8) (hst : stk = As.reverse ++ .ref b :: st) (hd : decode X.1.2.1 pc = .ok (.invokespecial idx, 3)) (hp : pc + 3 = pc1)
    (kk : ∀ r M', Qc r M' → V g X (kc + Y.2.2.1) (ks + Y.2.2.2) pc1 lv (r.toList ++ st) M' Q) : V g X kc ks pc lv stk M Q := by
  subst hp
  intro p e s m args below meth c hC H locs ls hP hS hl
  obtain ⟨⟨hcode, hini, hd3⟩, hin, hnm, hrt⟩ := hm
  obtain ⟨hexec, hb, hml, -, -, hown, -, hts, hKK, hz⟩ := id hC
  obtain ⟨⟨y, bt, mx, rt⟩, d, mc, ms⟩ := Y
  have hrt : rt = none := hrt
  subst hrt
  exact V_run (Y := ((y, bt, mx, none), d, mc, ms)) hC hS hl (va_runI (As := As) (rest := st) ⟨hexec, hb, hml, hown, hts⟩ hc ⟨callB_of n hts (xGood hcode) rfl rfl rfl (hts _ hini) (hts _ hlk) hd3 ⟨hR.1, hR.2.1⟩, hnm, hts _ hin⟩ ⟨xBlind, fun U hU hW => ⟨rfl, by rw [hU]; exact hP, xK.warm hW hKK, by rw [hU]; exact Nat.le_trans hz hS.1⟩⟩ rfl hn hl.1 hst (lv_room hsum) hd ⟨hR.2.2.1, hR.2.2.2⟩) kk
theorem V_callIN {Y : XT} {As : List Value} {b idx n : Nat} {host : String} {Qc : Option Value → MemT → Prop} (hc : Call g Y (.ref b :: As) M Qc) (hm : mI Y.1 n) (hlk : Cond.methodLinkNest X.1.1.cls idx Y.1.1 host ∈ xNest) (hn : As.length = n) (hR : rOK X Y kc ks) (hsum : (st.map fun v => v.category).sum ≤ 8) (hst : stk = As.reverse ++ .ref b :: st) (hd : decode X.1.2.1 pc = .ok (.invokespecial idx, 3)) (hp : pc + 3 = pc1)
    (kk : ∀ r M', Qc r M' → V g X (kc + Y.2.2.1) (ks + Y.2.2.2) pc1 lv (r.toList ++ st) M' Q) : V g X kc ks pc lv stk M Q := by
  subst hp
  intro p e s m args below meth c hC H locs ls hP hS hl
  obtain ⟨⟨hcode, hini, hd3⟩, hin, hnm, hrt⟩ := hm
  obtain ⟨hexec, hb, hml, -, -, hown, -, hts, hKK, hz⟩ := id hC
  obtain ⟨⟨y, bt, mx, rt⟩, d, mc, ms⟩ := Y
  have hrt : rt = none := hrt
  subst hrt
  exact V_run (Y := ((y, bt, mx, none), d, mc, ms)) hC hS hl (va_runIN (As := As) (rest := st) ⟨hexec, hb, hml, hown, hts⟩ hc ⟨va_cnB n hts (xGood hcode) rfl rfl rfl (hKK.2.1 _ hlk) (hts _ hini) hd3 ⟨hR.1, hR.2.1⟩, hnm, hts _ hin⟩ ⟨xBlind, fun U hU hW => ⟨rfl, by rw [hU]; exact hP, xK.warm hW hKK, by rw [hU]; exact Nat.le_trans hz hS.1⟩⟩ rfl hn hl.1 hst (lv_room hsum) hd ⟨hR.2.2.1, hR.2.2.2⟩) kk
/-- the JDK's own: max, min, arraycopy, Object() -/
theorem V_max {idx : Nat} {x y : Int32} (hlk : Cond.methodLink X.1.1.cls idx Lib.Math.max.name ∈ xT) (hs : Cond.static Lib.Math.max.name ∈ xT) (hi : Cond.initialized "java/lang/Math" ∈ xT) (hcd : Cond.code Lib.Math.max.name Lib.Math.max.code 2 (some .int) ∈ xT) (h1 : 1 ≤ X.2.1) (h2 : kc ≤ X.2.2.1) (h3 : ks ≤ X.2.2.2) (hsum : (st.map fun v => v.category).sum ≤ 8) (hd : decode X.1.2.1 pc = .ok (.invokestatic idx, 3)) (hp : pc + 3 = pc1) (kk : V g X kc ks pc1 lv (.int (if x < y then y else x) :: st) M Q) : V g X kc ks pc lv (.int y :: .int x :: st) M Q := by
  subst hp
  intro p e s m args below meth c hC H locs ls hP hS hl
  obtain ⟨hexec, hb, hml, -, -, hown, -, hts, hKK, hz⟩ := id hC
  exact va_mmax hexec hb (hml.trans hl.1.symm) hown (hts _ hlk) (hts _ hs) (hts _ hi) (hts _ hcd) h1 (by show _ ≤ 37 * X.2.1; omega) h2 h3 hd (kk p e s m args below meth c hC H locs ls hP hS hl)
theorem V_min {idx : Nat} {x y : Int32} (hlk : Cond.methodLink X.1.1.cls idx Lib.Math.min.name ∈ xT) (hs : Cond.static Lib.Math.min.name ∈ xT) (hi : Cond.initialized "java/lang/Math" ∈ xT) (hcd : Cond.code Lib.Math.min.name Lib.Math.min.code 2 (some .int) ∈ xT) (h1 : 1 ≤ X.2.1) (h2 : kc ≤ X.2.2.1) (h3 : ks ≤ X.2.2.2) (hsum : (st.map fun v => v.category).sum ≤ 8) (hd : decode X.1.2.1 pc = .ok (.invokestatic idx, 3)) (hp : pc + 3 = pc1) (kk : V g X kc ks pc1 lv (.int (if y < x then y else x) :: st) M Q) : V g X kc ks pc lv (.int y :: .int x :: st) M Q := by
  subst hp
  intro p e s m args below meth c hC H locs ls hP hS hl
  obtain ⟨hexec, hb, hml, -, -, hown, -, hts, hKK, hz⟩ := id hC
  exact va_mmin hexec hb (hml.trans hl.1.symm) hown (hts _ hlk) (hts _ hs) (hts _ hi) (hts _ hcd) h1 (by show _ ≤ 37 * X.2.1; omega) h2 h3 hd (kk p e s m args below meth c hC H locs ls hP hS hl)
theorem V_copy {idx k1 k2 n1 n2 : Nat} (a b n : Nat) {ia ib i : Int32} {I : Nat → Nat → Int32} {L : Nat → Nat → Int64} {RN : (Nat → Nat → Option Nat) × Nat} (hlk : Cond.methodLink X.1.1.cls idx arraycopyName ∈ xT) (hnat : Cond.native arraycopyName ∈ xT) (hs : Cond.static arraycopyName ∈ xT) (hi0 : Cond.initialized "java/lang/System" ∈ xT) (hl1 : lay k1 = (1, n1)) (hl2 : lay k2 = (1, n2)) (hk1 : k1 < RN.2) (hk2 : k2 < RN.2) (hN : RN.2 = 305) (ha : ia = nI a) (hb0 : ib = nI b) (hi : i = nI n) (h4 : a + n ≤ n1) (h5 : b + n ≤ n2) (hf1 : 1 ≤ X.2.1) (hsum : (st.map fun v => v.category).sum ≤ 8) (hd : decode X.1.2.1 pc = .ok (.invokestatic idx, 3)) (hp : pc + 3 = pc1)
    (kk : V g X kc ks pc1 lv st (va_up I k2 (va_cpy (I k1) (I k2) a b n), L, RN) Q) : V g X kc ks pc lv (.int i :: .int ib :: .ref (xA g k2) :: .int ia :: .ref (xA g k1) :: st) (I, L, RN) Q := by
  subst hp; subst ha; subst hb0; subst hi
  have hs1 : n1 < 2 ^ 31 := by have := lay_small k1; rw [hl1] at this; exact this
  have hs2 : n2 < 2 ^ 31 := by have := lay_small k2; rw [hl2] at this; exact this
  intro p e s m args below meth c hC H locs ls hP hS hl
  obtain ⟨hexec, hb, hml, -, -, hown, -, hts, hKK, hz⟩ := id hC
  refine va_copyi (ty := .int) hexec hb (hml.trans hl.1.symm) hown (hts _ hlk) (hts _ hnat) (hts _ hs) (hts _ hi0) hKK.1 hP.2 (xW_D g _) hS k1 k2 0 0 ((xW_get hk1).trans (by rw [xE_int hl1])) ((xW_get hk2).trans (by rw [xE_int hl2])) rfl rfl rfl (nI_pos (by omega)) (nI_pos (by omega)) (nI_pos (by omega)) (by rw [nI_clamp (by omega), nI_clamp (by omega)]; exact h4) (by rw [nI_clamp (by omega), nI_clamp (by omega)]; exact h5) (fun i _ => rfl) hf1 ?_ hd fun H1 locs1 hP1 hD1 hS1 => ?_
  · have : nativeFrameWords "java/lang/System" "arraycopy" 5 ≤ 18 := by decide
    show _ ≤ 37 * X.2.1
    omega
  · rw [nI_clamp (by omega), nI_clamp (by omega), nI_clamp (by omega)] at hP1
    refine kk p e s m args below meth c hC H1 _ ls ⟨fun h => absurd h (by show ¬ RN.2 < 305; omega), ?_⟩ hS1 hl
    rw [← xW_set (M := (I, L, RN)) (M' := (va_up I k2 (va_cpy (I k1) (I k2) a b n), L, RN)) (k := k2) rfl (fun i hi => xE_congr (va_up_ne _ _ hi) rfl rfl), xE_int hl2]
    show va_P _ _ (List.set _ _ (_, .inl (_, n2, .inl (va_up I k2 _ k2)))) _
    rw [va_up_self]
    exact hP1
theorem V_obj {idx b : Nat} (hlk : Cond.methodLink X.1.1.cls idx Lib.objectInit ∈ xT) (hi : Cond.instanceMethod Lib.objectInit ∈ xT) (hcd : Cond.code Lib.objectInit ⟨#[0xb1]⟩ 1 none ∈ xT) (h1 : 1 ≤ X.2.1) (hsum : (st.map fun v => v.category).sum ≤ 8) (hd : decode X.1.2.1 pc = .ok (.invokespecial idx, 3)) (hp : pc + 3 = pc1) (kk : V g X kc ks pc1 lv st M Q) : V g X kc ks pc lv (.ref b :: st) M Q := by
  subst hp
  intro p e s m args below meth c hC H locs ls hP hS hl
  obtain ⟨hexec, hb, hml, -, -, hown, -, hts, hKK, hz⟩ := id hC
  exact W.objInit hexec hb hown (hts _ hlk) (hts _ hi) (hts _ hcd) rfl (hl.1.trans hml.symm) rfl hd h1 (by show 2 * 0 + _ + 12 ≤ 37 * X.2.1; omega) (kk p e s m args below meth c hC H locs ls hP hS hl)

end VR
