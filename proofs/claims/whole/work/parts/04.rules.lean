section
variable {G : Gm} {R : Room} {mi : Mi} {Qf : Qfun} {kc ks pc : Nat} {lv lv2 : List (Nat × Value)} {st : List Value} {S : St}
theorem WP.iadd {x y : Int32} (hd : decode mi.2.1 pc = .ok (.iadd, 1))  (k : WP G R mi Qf kc ks (pc + 1) lv (.int (x + y) :: st) S) : WP G R mi Qf kc ks pc lv (.int y :: .int x :: st) S :=
  fun p e s m args below meth c E H locs ls hW hS hl => lv_iadd E.1 E.2.1 hd  (k p e s m args below meth c E H locs ls hW hS hl)
theorem WP.isub {x y : Int32} (hd : decode mi.2.1 pc = .ok (.isub, 1))  (k : WP G R mi Qf kc ks (pc + 1) lv (.int (x - y) :: st) S) : WP G R mi Qf kc ks pc lv (.int y :: .int x :: st) S :=
  fun p e s m args below meth c E H locs ls hW hS hl => lv_isub E.1 E.2.1 hd  (k p e s m args below meth c E H locs ls hW hS hl)
theorem WP.imul {x y : Int32} (hd : decode mi.2.1 pc = .ok (.imul, 1))  (k : WP G R mi Qf kc ks (pc + 1) lv (.int (x * y) :: st) S) : WP G R mi Qf kc ks pc lv (.int y :: .int x :: st) S :=
  fun p e s m args below meth c E H locs ls hW hS hl => lv_imul E.1 E.2.1 hd  (k p e s m args below meth c E H locs ls hW hS hl)
theorem WP.iand {x y : Int32} (hd : decode mi.2.1 pc = .ok (.iand, 1))  (k : WP G R mi Qf kc ks (pc + 1) lv (.int (x &&& y) :: st) S) : WP G R mi Qf kc ks pc lv (.int y :: .int x :: st) S :=
  fun p e s m args below meth c E H locs ls hW hS hl => lv_iand E.1 E.2.1 hd  (k p e s m args below meth c E H locs ls hW hS hl)
theorem WP.ixor {x y : Int32} (hd : decode mi.2.1 pc = .ok (.ixor, 1))  (k : WP G R mi Qf kc ks (pc + 1) lv (.int (x ^^^ y) :: st) S) : WP G R mi Qf kc ks pc lv (.int y :: .int x :: st) S :=
  fun p e s m args below meth c E H locs ls hW hS hl => lv_ixor E.1 E.2.1 hd  (k p e s m args below meth c E H locs ls hW hS hl)
theorem WP.ior {x y : Int32} (hd : decode mi.2.1 pc = .ok (.ior, 1))  (k : WP G R mi Qf kc ks (pc + 1) lv (.int (x ||| y) :: st) S) : WP G R mi Qf kc ks pc lv (.int y :: .int x :: st) S :=
  fun p e s m args below meth c E H locs ls hW hS hl => lv_ior E.1 E.2.1 hd  (k p e s m args below meth c E H locs ls hW hS hl)
theorem WP.ishl {x y : Int32} (hd : decode mi.2.1 pc = .ok (.ishl, 1))  (k : WP G R mi Qf kc ks (pc + 1) lv (.int (x <<< (y &&& 31)) :: st) S) : WP G R mi Qf kc ks pc lv (.int y :: .int x :: st) S :=
  fun p e s m args below meth c E H locs ls hW hS hl => lv_ishl E.1 E.2.1 hd  (k p e s m args below meth c E H locs ls hW hS hl)
theorem WP.ishr {x y : Int32} (hd : decode mi.2.1 pc = .ok (.ishr, 1))  (k : WP G R mi Qf kc ks (pc + 1) lv (.int (x >>> (y &&& 31)) :: st) S) : WP G R mi Qf kc ks pc lv (.int y :: .int x :: st) S :=
  fun p e s m args below meth c E H locs ls hW hS hl => lv_ishr E.1 E.2.1 hd  (k p e s m args below meth c E H locs ls hW hS hl)
theorem WP.iushr {x y : Int32} (hd : decode mi.2.1 pc = .ok (.iushr, 1))  (k : WP G R mi Qf kc ks (pc + 1) lv (.int ((x.toUInt32 >>> (y.toUInt32 &&& Int32.toUInt32 31)).toInt32) :: st) S) : WP G R mi Qf kc ks pc lv (.int y :: .int x :: st) S :=
  fun p e s m args below meth c E H locs ls hW hS hl => lv_iushr E.1 E.2.1 hd rfl (k p e s m args below meth c E H locs ls hW hS hl)
theorem WP.idiv {x y : Int32} (hd : decode mi.2.1 pc = .ok (.idiv, 1)) (hne : ¬ y = 0) (k : WP G R mi Qf kc ks (pc + 1) lv (.int (x / y) :: st) S) : WP G R mi Qf kc ks pc lv (.int y :: .int x :: st) S :=
  fun p e s m args below meth c E H locs ls hW hS hl => lv_idiv E.1 E.2.1 hd hne (k p e s m args below meth c E H locs ls hW hS hl)
theorem WP.irem {x y : Int32} (hd : decode mi.2.1 pc = .ok (.irem, 1)) (hne : ¬ y = 0) (k : WP G R mi Qf kc ks (pc + 1) lv (.int (x - x / y * y) :: st) S) : WP G R mi Qf kc ks pc lv (.int y :: .int x :: st) S :=
  fun p e s m args below meth c E H locs ls hW hS hl => lv_irem E.1 E.2.1 hd hne (k p e s m args below meth c E H locs ls hW hS hl)
theorem WP.ineg {x : Int32} (hd : decode mi.2.1 pc = .ok (.ineg, 1))  (k : WP G R mi Qf kc ks (pc + 1) lv (.int (-x) :: st) S) : WP G R mi Qf kc ks pc lv (.int x :: st) S :=
  fun p e s m args below meth c E H locs ls hW hS hl => lv_ineg E.1 E.2.1 hd  (k p e s m args below meth c E H locs ls hW hS hl)
theorem WP.ladd {x y : Int64} (hd : decode mi.2.1 pc = .ok (.ladd, 1))  (k : WP G R mi Qf kc ks (pc + 1) lv (.long (x + y) :: st) S) : WP G R mi Qf kc ks pc lv (.long y :: .long x :: st) S :=
  fun p e s m args below meth c E H locs ls hW hS hl => lv_ladd E.1 E.2.1 hd  (k p e s m args below meth c E H locs ls hW hS hl)
theorem WP.lsub {x y : Int64} (hd : decode mi.2.1 pc = .ok (.lsub, 1))  (k : WP G R mi Qf kc ks (pc + 1) lv (.long (x - y) :: st) S) : WP G R mi Qf kc ks pc lv (.long y :: .long x :: st) S :=
  fun p e s m args below meth c E H locs ls hW hS hl => lv_lsub E.1 E.2.1 hd  (k p e s m args below meth c E H locs ls hW hS hl)
theorem WP.lmul {x y : Int64} (hd : decode mi.2.1 pc = .ok (.lmul, 1))  (k : WP G R mi Qf kc ks (pc + 1) lv (.long (x * y) :: st) S) : WP G R mi Qf kc ks pc lv (.long y :: .long x :: st) S :=
  fun p e s m args below meth c E H locs ls hW hS hl => lv_lmul E.1 E.2.1 hd  (k p e s m args below meth c E H locs ls hW hS hl)
theorem WP.land {x y : Int64} (hd : decode mi.2.1 pc = .ok (.land, 1))  (k : WP G R mi Qf kc ks (pc + 1) lv (.long (x &&& y) :: st) S) : WP G R mi Qf kc ks pc lv (.long y :: .long x :: st) S :=
  fun p e s m args below meth c E H locs ls hW hS hl => lv_land E.1 E.2.1 hd  (k p e s m args below meth c E H locs ls hW hS hl)
theorem WP.lor {x y : Int64} (hd : decode mi.2.1 pc = .ok (.lor, 1))  (k : WP G R mi Qf kc ks (pc + 1) lv (.long (x ||| y) :: st) S) : WP G R mi Qf kc ks pc lv (.long y :: .long x :: st) S :=
  fun p e s m args below meth c E H locs ls hW hS hl => lv_lor E.1 E.2.1 hd  (k p e s m args below meth c E H locs ls hW hS hl)
theorem WP.ldiv {x y : Int64} (hd : decode mi.2.1 pc = .ok (.ldiv, 1)) (hne : ¬ y = 0) (k : WP G R mi Qf kc ks (pc + 1) lv (.long (x / y) :: st) S) : WP G R mi Qf kc ks pc lv (.long y :: .long x :: st) S :=
  fun p e s m args below meth c E H locs ls hW hS hl => lv_ldiv E.1 E.2.1 hd hne (k p e s m args below meth c E H locs ls hW hS hl)
theorem WP.lrem {x y : Int64} (hd : decode mi.2.1 pc = .ok (.lrem, 1)) (hne : ¬ y = 0) (k : WP G R mi Qf kc ks (pc + 1) lv (.long (x - x / y * y) :: st) S) : WP G R mi Qf kc ks pc lv (.long y :: .long x :: st) S :=
  fun p e s m args below meth c E H locs ls hW hS hl => lv_lrem E.1 E.2.1 hd hne (k p e s m args below meth c E H locs ls hW hS hl)
theorem WP.lshl {x : Int64} {y : Int32} (hd : decode mi.2.1 pc = .ok (.lshl, 1))  (k : WP G R mi Qf kc ks (pc + 1) lv (.long (x <<< (y.toInt64 &&& 63)) :: st) S) : WP G R mi Qf kc ks pc lv (.int y :: .long x :: st) S :=
  fun p e s m args below meth c E H locs ls hW hS hl => lv_lshl E.1 E.2.1 hd rfl (k p e s m args below meth c E H locs ls hW hS hl)
theorem WP.lshr {x : Int64} {y : Int32} (hd : decode mi.2.1 pc = .ok (.lshr, 1))  (k : WP G R mi Qf kc ks (pc + 1) lv (.long (x >>> (y.toInt64 &&& 63)) :: st) S) : WP G R mi Qf kc ks pc lv (.int y :: .long x :: st) S :=
  fun p e s m args below meth c E H locs ls hW hS hl => lv_lshr E.1 E.2.1 hd rfl (k p e s m args below meth c E H locs ls hW hS hl)
theorem WP.lushr {x : Int64} {y : Int32} (hd : decode mi.2.1 pc = .ok (.lushr, 1))  (k : WP G R mi Qf kc ks (pc + 1) lv (.long ((x.toUInt64 >>> (y.toInt64.toUInt64 &&& Int64.toUInt64 63)).toInt64) :: st) S) : WP G R mi Qf kc ks pc lv (.int y :: .long x :: st) S :=
  fun p e s m args below meth c E H locs ls hW hS hl => lv_lushr E.1 E.2.1 hd rfl (k p e s m args below meth c E H locs ls hW hS hl)
theorem WP.lcmp {x y : Int64} (hd : decode mi.2.1 pc = .ok (.lcmp, 1))  (k : WP G R mi Qf kc ks (pc + 1) lv (.int (lg_cmp x y) :: st) S) : WP G R mi Qf kc ks pc lv (.long y :: .long x :: st) S :=
  fun p e s m args below meth c E H locs ls hW hS hl => W.lcmp E.1 E.2.1 hd  (k p e s m args below meth c E H locs ls hW hS hl)
theorem WP.i2l {x : Int32} (hd : decode mi.2.1 pc = .ok (.i2l, 1))  (k : WP G R mi Qf kc ks (pc + 1) lv (.long x.toInt64 :: st) S) : WP G R mi Qf kc ks pc lv (.int x :: st) S :=
  fun p e s m args below meth c E H locs ls hW hS hl => lv_i2l E.1 E.2.1 hd rfl (k p e s m args below meth c E H locs ls hW hS hl)
theorem WP.l2i {x : Int64} (hd : decode mi.2.1 pc = .ok (.l2i, 1))  (k : WP G R mi Qf kc ks (pc + 1) lv (.int x.toInt32 :: st) S) : WP G R mi Qf kc ks pc lv (.long x :: st) S :=
  fun p e s m args below meth c E H locs ls hW hS hl => lv_l2i E.1 E.2.1 hd rfl (k p e s m args below meth c E H locs ls hW hS hl)
theorem WP.i2b {x : Int32} (hd : decode mi.2.1 pc = .ok (.i2b, 1))  (k : WP G R mi Qf kc ks (pc + 1) lv (.int x.toInt8.toInt32 :: st) S) : WP G R mi Qf kc ks pc lv (.int x :: st) S :=
  fun p e s m args below meth c E H locs ls hW hS hl => lv_i2b E.1 E.2.1 hd rfl (k p e s m args below meth c E H locs ls hW hS hl)
theorem WP.i2s {x : Int32} (hd : decode mi.2.1 pc = .ok (.i2s, 1))  (k : WP G R mi Qf kc ks (pc + 1) lv (.int x.toInt16.toInt32 :: st) S) : WP G R mi Qf kc ks pc lv (.int x :: st) S :=
  fun p e s m args below meth c E H locs ls hW hS hl => lv_i2s E.1 E.2.1 hd rfl (k p e s m args below meth c E H locs ls hW hS hl)
theorem WP.i2c {x : Int32} (hd : decode mi.2.1 pc = .ok (.i2c, 1))  (k : WP G R mi Qf kc ks (pc + 1) lv (.int ((x.toUInt32 % 65536).toInt32) :: st) S) : WP G R mi Qf kc ks pc lv (.int x :: st) S :=
  fun p e s m args below meth c E H locs ls hW hS hl => lv_i2c E.1 E.2.1 hd rfl (k p e s m args below meth c E H locs ls hW hS hl)
theorem WP.iconst {n : Int} {v : Int32} (hd : decode mi.2.1 pc = .ok (.iconst n, 1)) (hv : Int32.ofInt n = v) (k : WP G R mi Qf kc ks (pc + 1) lv (.int v :: st) S) : WP G R mi Qf kc ks pc lv (st) S :=
  fun p e s m args below meth c E H locs ls hW hS hl => lv_iconst E.1 E.2.1 hd hv (k p e s m args below meth c E H locs ls hW hS hl)
theorem WP.bipush {n : Int} {v : Int32} (hd : decode mi.2.1 pc = .ok (.bipush n, 2)) (hv : (Int8.ofInt n).toInt32 = v) (k : WP G R mi Qf kc ks (pc + 2) lv (.int v :: st) S) : WP G R mi Qf kc ks pc lv (st) S :=
  fun p e s m args below meth c E H locs ls hW hS hl => lv_bipush E.1 E.2.1 hd hv (k p e s m args below meth c E H locs ls hW hS hl)
theorem WP.sipush {n : Int} {v : Int32} (hd : decode mi.2.1 pc = .ok (.sipush n, 3)) (hv : (Int16.ofInt n).toInt32 = v) (k : WP G R mi Qf kc ks (pc + 3) lv (.int v :: st) S) : WP G R mi Qf kc ks pc lv (st) S :=
  fun p e s m args below meth c E H locs ls hW hS hl => lv_sipush E.1 E.2.1 hd hv (k p e s m args below meth c E H locs ls hW hS hl)
theorem WP.lconst {n : Fin 2} {v : Int64} (hd : decode mi.2.1 pc = .ok (.lconst n, 1)) (hv : Int64.ofNat (n : Nat) = v) (k : WP G R mi Qf kc ks (pc + 1) lv (.long v :: st) S) : WP G R mi Qf kc ks pc lv (st) S :=
  fun p e s m args below meth c E H locs ls hW hS hl => lv_lconst E.1 E.2.1 hd hv (k p e s m args below meth c E H locs ls hW hS hl)
theorem WP.dup {v : Value} (hd : decode mi.2.1 pc = .ok (.dup, 1)) (hv : v.category = 1) (k : WP G R mi Qf kc ks (pc + 1) lv (v :: v :: st) S) : WP G R mi Qf kc ks pc lv (v :: st) S :=
  fun p e s m args below meth c E H locs ls hW hS hl => lv_dup E.1 E.2.1 hd ((rv_cat G v).trans hv) (k p e s m args below meth c E H locs ls hW hS hl)
theorem WP.pop {v : Value} (hd : decode mi.2.1 pc = .ok (.pop, 1)) (hv : v.category = 1) (k : WP G R mi Qf kc ks (pc + 1) lv st S) : WP G R mi Qf kc ks pc lv (v :: st) S :=
  fun p e s m args below meth c E H locs ls hW hS hl => lv_pop E.1 E.2.1 hd ((rv_cat G v).trans hv) (k p e s m args below meth c E H locs ls hW hS hl)
theorem WP.dup2 {v w : Value} (hd : decode mi.2.1 pc = .ok (.dup2, 1)) (hv : v.category = 1) (hw : w.category = 1) (k : WP G R mi Qf kc ks (pc + 1) lv (v :: w :: v :: w :: st) S) : WP G R mi Qf kc ks pc lv (v :: w :: st) S :=
  fun p e s m args below meth c E H locs ls hW hS hl => lv_dup2_11 E.1 E.2.1 hd ((rv_cat G v).trans hv) ((rv_cat G w).trans hw) (k p e s m args below meth c E H locs ls hW hS hl)
theorem lvm_at {l : List (Nat × Value)} {j i : Nat} {v : Value} (h : l[j]? = some (i, v)) : (lvm G l)[j]? = some (i, rv G v) := by
  rw [lvm, List.getElem?_map, h]; rfl
theorem WP.iload_n {n : Fin 4} (j : Nat) {i : Nat} {x : Int32} (hd : decode mi.2.1 pc = .ok (.iload_n n, 1)) (hi : (n : Nat) = i) (hj : lv[j]? = some (i, .int x)) (k : WP G R mi Qf kc ks (pc + 1) lv (.int x :: st) S) : WP G R mi Qf kc ks pc lv st S :=
  fun p e s m args below meth c E H locs ls hW hS hl => lv_iload_n E.1 E.2.1 hd hi (lv_at hl j (lvm_at hj)) (k p e s m args below meth c E H locs ls hW hS hl)
theorem WP.iload (j : Nat) {i : Nat} {x : Int32} (hd : decode mi.2.1 pc = .ok (.iload i, 2)) (hj : lv[j]? = some (i, .int x)) (k : WP G R mi Qf kc ks (pc + 2) lv (.int x :: st) S) : WP G R mi Qf kc ks pc lv st S :=
  fun p e s m args below meth c E H locs ls hW hS hl => lv_iload E.1 E.2.1 hd (lv_at hl j (lvm_at hj)) (k p e s m args below meth c E H locs ls hW hS hl)
theorem WP.aload_n {n : Fin 4} (j : Nat) {i : Nat} {x : Nat} (hd : decode mi.2.1 pc = .ok (.aload_n n, 1)) (hi : (n : Nat) = i) (hj : lv[j]? = some (i, .ref x)) (k : WP G R mi Qf kc ks (pc + 1) lv (.ref x :: st) S) : WP G R mi Qf kc ks pc lv st S :=
  fun p e s m args below meth c E H locs ls hW hS hl => lv_aload_n E.1 E.2.1 hd hi (lv_at hl j (lvm_at hj)) (k p e s m args below meth c E H locs ls hW hS hl)
theorem WP.aload (j : Nat) {i : Nat} {x : Nat} (hd : decode mi.2.1 pc = .ok (.aload i, 2)) (hj : lv[j]? = some (i, .ref x)) (k : WP G R mi Qf kc ks (pc + 2) lv (.ref x :: st) S) : WP G R mi Qf kc ks pc lv st S :=
  fun p e s m args below meth c E H locs ls hW hS hl => lv_aload E.1 E.2.1 hd (lv_at hl j (lvm_at hj)) (k p e s m args below meth c E H locs ls hW hS hl)
theorem WP.lload_n {n : Fin 4} (j : Nat) {i : Nat} {x : Int64} (hd : decode mi.2.1 pc = .ok (.lload_n n, 1)) (hi : (n : Nat) = i) (hj : lv[j]? = some (i, .long x)) (k : WP G R mi Qf kc ks (pc + 1) lv (.long x :: st) S) : WP G R mi Qf kc ks pc lv st S :=
  fun p e s m args below meth c E H locs ls hW hS hl => lv_lload_n E.1 E.2.1 hd hi (lv_at hl j (lvm_at hj)) (k p e s m args below meth c E H locs ls hW hS hl)
theorem WP.lload (j : Nat) {i : Nat} {x : Int64} (hd : decode mi.2.1 pc = .ok (.lload i, 2)) (hj : lv[j]? = some (i, .long x)) (k : WP G R mi Qf kc ks (pc + 2) lv (.long x :: st) S) : WP G R mi Qf kc ks pc lv st S :=
  fun p e s m args below meth c E H locs ls hW hS hl => lv_lload E.1 E.2.1 hd (lv_at hl j (lvm_at hj)) (k p e s m args below meth c E H locs ls hW hS hl)
theorem lvm_filter {l : List (Nat × Value)} {p : Nat → Nat → Bool} : (lvm G l).filter (fun q => p q.1 q.2.category) = lvm G (l.filter (fun q => p q.1 q.2.category)) := by
  rw [lvm, lvm, List.filter_map]
  congr 1
  apply List.filter_congr
  intro q _
  simp only [Function.comp, rv_cat]
def f1 (i : Nat) (l : List (Nat × Value)) : List (Nat × Value) := l.filter (fun q => !(q.1 == i) && !(q.1 + 1 == i && q.2.category == 2))
def f2 (i : Nat) (l : List (Nat × Value)) : List (Nat × Value) := l.filter (fun q => !(q.1 == i) && (!(q.1 == i + 1) && !(q.1 + 1 == i && q.2.category == 2)))
theorem f1_m (i : Nat) (l : List (Nat × Value)) (v : Value) (h : (i, v) :: f1 i l = lv2) : (i, rv G v) :: (lvm G l).filter (fun q => !(q.1 == i) && !(q.1 + 1 == i && q.2.category == 2)) = lvm G lv2 := by
  rw [← h, lvm_filter (p := fun a b => !(a == i) && !(a + 1 == i && b == 2))]
  rfl
theorem f2_m (i : Nat) (l : List (Nat × Value)) (v : Value) (h : (i, v) :: f2 i l = lv2) : (i, rv G v) :: (lvm G l).filter (fun q => !(q.1 == i) && (!(q.1 == i + 1) && !(q.1 + 1 == i && q.2.category == 2))) = lvm G lv2 := by
  rw [← h, lvm_filter (p := fun a b => !(a == i) && (!(a == i + 1) && !(a + 1 == i && b == 2)))]
  rfl
theorem WP.istore_n {n : Fin 4} {i : Nat} {x : Int32} (hd : decode mi.2.1 pc = .ok (.istore_n n, 1)) (hi : (n : Nat) = i) (hn : i < mi.2.2.1) (hv : (i, .int x) :: f1 i lv = lv2) (k : WP G R mi Qf kc ks (pc + 1) lv2 st S) : WP G R mi Qf kc ks pc lv (.int x :: st) S :=
  fun p e s m args below meth c E H locs ls hW hS hl => lv_istore_n E.1 E.2.1 hd hi hl hn (f1_m (G := G) i lv (.int x) hv) (fun ls2 hl2 => k p e s m args below meth c E H locs ls2 hW hS hl2)
theorem WP.istore {i : Nat} {x : Int32} (hd : decode mi.2.1 pc = .ok (.istore i, 2)) (hn : i < mi.2.2.1) (hv : (i, .int x) :: f1 i lv = lv2) (k : WP G R mi Qf kc ks (pc + 2) lv2 st S) : WP G R mi Qf kc ks pc lv (.int x :: st) S :=
  fun p e s m args below meth c E H locs ls hW hS hl => lv_istore E.1 E.2.1 hd hl hn (f1_m (G := G) i lv (.int x) hv) (fun ls2 hl2 => k p e s m args below meth c E H locs ls2 hW hS hl2)
theorem WP.astore_n {n : Fin 4} {i : Nat} {x : Nat} (hd : decode mi.2.1 pc = .ok (.astore_n n, 1)) (hi : (n : Nat) = i) (hn : i < mi.2.2.1) (hv : (i, .ref x) :: f1 i lv = lv2) (k : WP G R mi Qf kc ks (pc + 1) lv2 st S) : WP G R mi Qf kc ks pc lv (.ref x :: st) S :=
  fun p e s m args below meth c E H locs ls hW hS hl => lv_astore_n E.1 E.2.1 hd hi hl hn (f1_m (G := G) i lv (.ref x) hv) (fun ls2 hl2 => k p e s m args below meth c E H locs ls2 hW hS hl2)
theorem WP.astore {i : Nat} {x : Nat} (hd : decode mi.2.1 pc = .ok (.astore i, 2)) (hn : i < mi.2.2.1) (hv : (i, .ref x) :: f1 i lv = lv2) (k : WP G R mi Qf kc ks (pc + 2) lv2 st S) : WP G R mi Qf kc ks pc lv (.ref x :: st) S :=
  fun p e s m args below meth c E H locs ls hW hS hl => lv_astore E.1 E.2.1 hd hl hn (f1_m (G := G) i lv (.ref x) hv) (fun ls2 hl2 => k p e s m args below meth c E H locs ls2 hW hS hl2)
theorem WP.lstore_n {n : Fin 4} {i : Nat} {x : Int64} (hd : decode mi.2.1 pc = .ok (.lstore_n n, 1)) (hi : (n : Nat) = i) (hn : i + 1 < mi.2.2.1) (hv : (i, .long x) :: f2 i lv = lv2) (k : WP G R mi Qf kc ks (pc + 1) lv2 st S) : WP G R mi Qf kc ks pc lv (.long x :: st) S :=
  fun p e s m args below meth c E H locs ls hW hS hl => lv_lstore_n E.1 E.2.1 hd hi hl hn (f2_m (G := G) i lv (.long x) hv) (fun ls2 hl2 => k p e s m args below meth c E H locs ls2 hW hS hl2)
theorem WP.lstore {i : Nat} {x : Int64} (hd : decode mi.2.1 pc = .ok (.lstore i, 2)) (hn : i + 1 < mi.2.2.1) (hv : (i, .long x) :: f2 i lv = lv2) (k : WP G R mi Qf kc ks (pc + 2) lv2 st S) : WP G R mi Qf kc ks pc lv (.long x :: st) S :=
  fun p e s m args below meth c E H locs ls hW hS hl => lv_lstore E.1 E.2.1 hd hl hn (f2_m (G := G) i lv (.long x) hv) (fun ls2 hl2 => k p e s m args below meth c E H locs ls2 hW hS hl2)
theorem WP.iinc (j : Nat) {i : Nat} {n : Int} {x : Int32} (w : Int32) (hd : decode mi.2.1 pc = .ok (.iinc i n, 3)) (hj : lv[j]? = some (i, .int x)) (hw : Int32.ofInt n = w) (hn : i < mi.2.2.1) (hv : (i, .int (x + w)) :: f1 i lv = lv2) (k : WP G R mi Qf kc ks (pc + 3) lv2 st S) : WP G R mi Qf kc ks pc lv st S :=
  fun p e s m args below meth c E H locs ls hW hS hl => lv_iinc (v := x + w) E.1 E.2.1 hd hl (lvm_at hj) (by rw [hw]) hn (f1_m (G := G) i lv (.int (x + w)) hv) (fun ls2 hl2 => k p e s m args below meth c E H locs ls2 hW hS hl2)
theorem WP.pick (js : List Nat) (h : lv_pick lv js = lv2) (k : WP G R mi Qf kc ks pc lv2 st S) : WP G R mi Qf kc ks pc lv st S :=
  fun p e s m args below meth c E H locs ls hW hS hl => k p e s m args below meth c E H locs ls hW hS (lv_sub hl js (by rw [← h]; simp [lv_pick, lvm, List.map_filterMap]))
theorem WP.goto {off : Int} {tgt : Nat} (hd : decode mi.2.1 pc = .ok (.goto off, 3)) (ht : (pc : Int) + off = (tgt : Int)) (k : WP G R mi Qf kc ks tgt lv st S) : WP G R mi Qf kc ks pc lv st S :=
  fun p e s m args below meth c E H locs ls hW hS hl => lv_goto E.1 E.2.1 hd ht (k p e s m args below meth c E H locs ls hW hS hl)
theorem WP.if_eq {x : Int32} {off : Int} {tgt : Nat} (hd : decode mi.2.1 pc = .ok (.ifCond .eq off, 3)) (ht : (pc : Int) + off = (tgt : Int)) (kt : x = 0 → WP G R mi Qf kc ks tgt lv st S) (kf : ¬ x = 0 → WP G R mi Qf kc ks (pc + 3) lv st S) : WP G R mi Qf kc ks pc lv (.int x :: st) S :=
  fun p e s m args below meth c E H locs ls hW hS hl => lv_if_eq E.1 E.2.1 hd ht (fun h => kt h p e s m args below meth c E H locs ls hW hS hl) (fun h => kf h p e s m args below meth c E H locs ls hW hS hl)
theorem WP.icmp_eq {x y : Int32} {off : Int} {tgt : Nat} (hd : decode mi.2.1 pc = .ok (.if_icmp .eq off, 3)) (ht : (pc : Int) + off = (tgt : Int)) (kt : x = y → WP G R mi Qf kc ks tgt lv st S) (kf : ¬ x = y → WP G R mi Qf kc ks (pc + 3) lv st S) : WP G R mi Qf kc ks pc lv (.int y :: .int x :: st) S :=
  fun p e s m args below meth c E H locs ls hW hS hl => lv_icmp_eq E.1 E.2.1 hd ht (fun h => kt h p e s m args below meth c E H locs ls hW hS hl) (fun h => kf h p e s m args below meth c E H locs ls hW hS hl)
theorem WP.if_ne {x : Int32} {off : Int} {tgt : Nat} (hd : decode mi.2.1 pc = .ok (.ifCond .ne off, 3)) (ht : (pc : Int) + off = (tgt : Int)) (kt : ¬ x = 0 → WP G R mi Qf kc ks tgt lv st S) (kf : x = 0 → WP G R mi Qf kc ks (pc + 3) lv st S) : WP G R mi Qf kc ks pc lv (.int x :: st) S :=
  fun p e s m args below meth c E H locs ls hW hS hl => lv_if_ne E.1 E.2.1 hd ht (fun h => kt h p e s m args below meth c E H locs ls hW hS hl) (fun h => kf h p e s m args below meth c E H locs ls hW hS hl)
theorem WP.icmp_ne {x y : Int32} {off : Int} {tgt : Nat} (hd : decode mi.2.1 pc = .ok (.if_icmp .ne off, 3)) (ht : (pc : Int) + off = (tgt : Int)) (kt : ¬ x = y → WP G R mi Qf kc ks tgt lv st S) (kf : x = y → WP G R mi Qf kc ks (pc + 3) lv st S) : WP G R mi Qf kc ks pc lv (.int y :: .int x :: st) S :=
  fun p e s m args below meth c E H locs ls hW hS hl => lv_icmp_ne E.1 E.2.1 hd ht (fun h => kt h p e s m args below meth c E H locs ls hW hS hl) (fun h => kf h p e s m args below meth c E H locs ls hW hS hl)
theorem WP.if_lt {x : Int32} {off : Int} {tgt : Nat} (hd : decode mi.2.1 pc = .ok (.ifCond .lt off, 3)) (ht : (pc : Int) + off = (tgt : Int)) (kt : x < 0 → WP G R mi Qf kc ks tgt lv st S) (kf : ¬ x < 0 → WP G R mi Qf kc ks (pc + 3) lv st S) : WP G R mi Qf kc ks pc lv (.int x :: st) S :=
  fun p e s m args below meth c E H locs ls hW hS hl => lv_if_lt E.1 E.2.1 hd ht (fun h => kt h p e s m args below meth c E H locs ls hW hS hl) (fun h => kf h p e s m args below meth c E H locs ls hW hS hl)
theorem WP.icmp_lt {x y : Int32} {off : Int} {tgt : Nat} (hd : decode mi.2.1 pc = .ok (.if_icmp .lt off, 3)) (ht : (pc : Int) + off = (tgt : Int)) (kt : x < y → WP G R mi Qf kc ks tgt lv st S) (kf : ¬ x < y → WP G R mi Qf kc ks (pc + 3) lv st S) : WP G R mi Qf kc ks pc lv (.int y :: .int x :: st) S :=
  fun p e s m args below meth c E H locs ls hW hS hl => lv_icmp_lt E.1 E.2.1 hd ht (fun h => kt h p e s m args below meth c E H locs ls hW hS hl) (fun h => kf h p e s m args below meth c E H locs ls hW hS hl)
theorem WP.if_ge {x : Int32} {off : Int} {tgt : Nat} (hd : decode mi.2.1 pc = .ok (.ifCond .ge off, 3)) (ht : (pc : Int) + off = (tgt : Int)) (kt : 0 ≤ x → WP G R mi Qf kc ks tgt lv st S) (kf : ¬ 0 ≤ x → WP G R mi Qf kc ks (pc + 3) lv st S) : WP G R mi Qf kc ks pc lv (.int x :: st) S :=
  fun p e s m args below meth c E H locs ls hW hS hl => lv_if_ge E.1 E.2.1 hd ht (fun h => kt h p e s m args below meth c E H locs ls hW hS hl) (fun h => kf h p e s m args below meth c E H locs ls hW hS hl)
theorem WP.icmp_ge {x y : Int32} {off : Int} {tgt : Nat} (hd : decode mi.2.1 pc = .ok (.if_icmp .ge off, 3)) (ht : (pc : Int) + off = (tgt : Int)) (kt : y ≤ x → WP G R mi Qf kc ks tgt lv st S) (kf : ¬ y ≤ x → WP G R mi Qf kc ks (pc + 3) lv st S) : WP G R mi Qf kc ks pc lv (.int y :: .int x :: st) S :=
  fun p e s m args below meth c E H locs ls hW hS hl => lv_icmp_ge E.1 E.2.1 hd ht (fun h => kt h p e s m args below meth c E H locs ls hW hS hl) (fun h => kf h p e s m args below meth c E H locs ls hW hS hl)
theorem WP.if_gt {x : Int32} {off : Int} {tgt : Nat} (hd : decode mi.2.1 pc = .ok (.ifCond .gt off, 3)) (ht : (pc : Int) + off = (tgt : Int)) (kt : 0 < x → WP G R mi Qf kc ks tgt lv st S) (kf : ¬ 0 < x → WP G R mi Qf kc ks (pc + 3) lv st S) : WP G R mi Qf kc ks pc lv (.int x :: st) S :=
  fun p e s m args below meth c E H locs ls hW hS hl => lv_if_gt E.1 E.2.1 hd ht (fun h => kt h p e s m args below meth c E H locs ls hW hS hl) (fun h => kf h p e s m args below meth c E H locs ls hW hS hl)
theorem WP.icmp_gt {x y : Int32} {off : Int} {tgt : Nat} (hd : decode mi.2.1 pc = .ok (.if_icmp .gt off, 3)) (ht : (pc : Int) + off = (tgt : Int)) (kt : y < x → WP G R mi Qf kc ks tgt lv st S) (kf : ¬ y < x → WP G R mi Qf kc ks (pc + 3) lv st S) : WP G R mi Qf kc ks pc lv (.int y :: .int x :: st) S :=
  fun p e s m args below meth c E H locs ls hW hS hl => lv_icmp_gt E.1 E.2.1 hd ht (fun h => kt h p e s m args below meth c E H locs ls hW hS hl) (fun h => kf h p e s m args below meth c E H locs ls hW hS hl)
theorem WP.if_le {x : Int32} {off : Int} {tgt : Nat} (hd : decode mi.2.1 pc = .ok (.ifCond .le off, 3)) (ht : (pc : Int) + off = (tgt : Int)) (kt : x ≤ 0 → WP G R mi Qf kc ks tgt lv st S) (kf : ¬ x ≤ 0 → WP G R mi Qf kc ks (pc + 3) lv st S) : WP G R mi Qf kc ks pc lv (.int x :: st) S :=
  fun p e s m args below meth c E H locs ls hW hS hl => lv_if_le E.1 E.2.1 hd ht (fun h => kt h p e s m args below meth c E H locs ls hW hS hl) (fun h => kf h p e s m args below meth c E H locs ls hW hS hl)
theorem WP.icmp_le {x y : Int32} {off : Int} {tgt : Nat} (hd : decode mi.2.1 pc = .ok (.if_icmp .le off, 3)) (ht : (pc : Int) + off = (tgt : Int)) (kt : x ≤ y → WP G R mi Qf kc ks tgt lv st S) (kf : ¬ x ≤ y → WP G R mi Qf kc ks (pc + 3) lv st S) : WP G R mi Qf kc ks pc lv (.int y :: .int x :: st) S :=
  fun p e s m args below meth c E H locs ls hW hS hl => lv_icmp_le E.1 E.2.1 hd ht (fun h => kt h p e s m args below meth c E H locs ls hW hS hl) (fun h => kf h p e s m args below meth c E H locs ls hW hS hl)
theorem WP.ldc {index : Nat} {v : Int32} (hw : Cond.constant mi.2.2.2.2 index v ∈ WS) (hd : decode mi.2.1 pc = .ok (.ldc index, 2)) (k : WP G R mi Qf kc ks (pc + 2) lv (.int v :: st) S) : WP G R mi Qf kc ks pc lv st S :=
  fun p e s m args below meth c E H locs ls hW hS hl => lv_ldc E.1 E.2.1 E.2.2.2.2.1 (E.2.2.2.2.2.1 _ hw) hd (k p e s m args below meth c E H locs ls hW hS hl)
theorem WP.ldc_w {index : Nat} {v : Int32} (hw : Cond.constant mi.2.2.2.2 index v ∈ WS) (hd : decode mi.2.1 pc = .ok (.ldc_w index, 3)) (k : WP G R mi Qf kc ks (pc + 3) lv (.int v :: st) S) : WP G R mi Qf kc ks pc lv st S :=
  fun p e s m args below meth c E H locs ls hW hS hl => lv_ldcw E.1 E.2.1 E.2.2.2.2.1 (E.2.2.2.2.2.1 _ hw) hd (k p e s m args below meth c E H locs ls hW hS hl)
theorem WP.ldc2 {index : Nat} {v : Int64} (hw : Cond.constantLong mi.2.2.2.2 index v ∈ WS) (hd : decode mi.2.1 pc = .ok (.ldc2_w index, 3)) (k : WP G R mi Qf kc ks (pc + 3) lv (.long v :: st) S) : WP G R mi Qf kc ks pc lv st S :=
  fun p e s m args below meth c E H locs ls hW hS hl => lv_ldc2 E.1 E.2.1 E.2.2.2.2.1 (E.2.2.2.2.2.1 _ hw) hd (k p e s m args below meth c E H locs ls hW hS hl)
theorem WP.getI {index b : Nat} (c j : Nat) (hw : Cond.fieldLink mi.2.2.2.2 index (cT c j).1 (cT c j).2.1 (cT c j).2.2.1 ∈ WS) (hc : c < 7) (hj : j < nF c) (hi : isI c j = true) (hsh : S.1[b]? = some (.inl c)) (hd : decode mi.2.1 pc = .ok (.getfield index, 3)) (k : WP G R mi Qf kc ks (pc + 3) lv (.int (S.2.2 b j) :: st) S) : WP G R mi Qf kc ks pc lv (.ref b :: st) S := by
  intro p e s m args below meth c E H locs ls hW hS hl
  have eb : (gr G b) = G.2.1 + b := hW.gr hsh
  show W _ _ _ _ _ _ _ _ _ _ _ _ _ _ _ (F0 m pc ls (.ref (gr G b) :: st.map (rv G)))
  rw [eb]
  refine va_get (v := rv G (.int (S.2.2 b j))) E.1 E.2.1 E.2.2.2.2.2.1 (cf_in hc) E.2.2.2.2.1 E.2.2.2.2.2.2.2.2.1 hW.1 b (cells_at hsh) (cf_cl hc) j hj (E.2.2.2.2.2.1 _ hw) (fun x h => h) ?_ hd (k p e s m args below meth c E H locs ls hW hS hl)
  rw [List.getElem?_map, List.getElem?_range hj]
  simp only [Option.map_some, fv, hi]
  rfl
theorem WP.getR {index b : Nat} (c j : Nat) (hw : Cond.fieldLink mi.2.2.2.2 index (cT c j).1 (cT c j).2.1 (cT c j).2.2.1 ∈ WS) (hc : c < 7) (hj : j < nF c) (hi : isI c j = false) (hsh : S.1[b]? = some (.inl c)) {id : Nat} (ht : S.2.1 b j = some id) (hd : decode mi.2.1 pc = .ok (.getfield index, 3)) (k : WP G R mi Qf kc ks (pc + 3) lv (.ref id :: st) S) : WP G R mi Qf kc ks pc lv (.ref b :: st) S := by
  intro p e s m args below meth c E H locs ls hW hS hl
  have eb : (gr G b) = G.2.1 + b := hW.gr hsh
  show W _ _ _ _ _ _ _ _ _ _ _ _ _ _ _ (F0 m pc ls (.ref (gr G b) :: st.map (rv G)))
  rw [eb]
  refine va_get (v := rv G (.ref id)) E.1 E.2.1 E.2.2.2.2.2.1 (cf_in hc) E.2.2.2.2.1 E.2.2.2.2.2.2.2.2.1 hW.1 b (cells_at hsh) (cf_cl hc) j hj (E.2.2.2.2.2.1 _ hw) (fun x h => h) ?_ hd (k p e s m args below meth c E H locs ls hW hS hl)
  rw [List.getElem?_map, List.getElem?_range hj]
  simp only [Option.map_some, fv, hi, ht]
  rfl
theorem WP.getIN {index b : Nat} {host : String} (c j : Nat) (hw : Cond.fieldLinkNest mi.2.2.2.2 index (cT c j).1 (cT c j).2.1 (cT c j).2.2.1 host ∈ NWS) (hc : c < 7) (hj : j < nF c) (hi : isI c j = true) (hsh : S.1[b]? = some (.inl c)) (hd : decode mi.2.1 pc = .ok (.getfield index, 3)) (k : WP G R mi Qf kc ks (pc + 3) lv (.int (S.2.2 b j) :: st) S) : WP G R mi Qf kc ks pc lv (.ref b :: st) S := by
  intro p e s m args below meth c E H locs ls hW hS hl
  have eb : (gr G b) = G.2.1 + b := hW.gr hsh
  show W _ _ _ _ _ _ _ _ _ _ _ _ _ _ _ (F0 m pc ls (.ref (gr G b) :: st.map (rv G)))
  rw [eb]
  refine va_getN (v := rv G (.int (S.2.2 b j))) E.1 E.2.1 E.2.2.2.2.2.1 (cf_in hc) E.2.2.2.2.1 E.2.2.2.2.2.2.2.2.1 hW.1 b (cells_at hsh) (cf_cl hc) j hj (va_Nw.use rfl (E.2.2.2.2.2.2.2.2.2.1.2.2.2.2.2.2.2.2.2.2.2 _ hw)) (fun x h => h) ?_ hd (k p e s m args below meth c E H locs ls hW hS hl)
  rw [List.getElem?_map, List.getElem?_range hj]
  simp only [Option.map_some, fv, hi]
  rfl
theorem WP.getRN {index b : Nat} {host : String} (c j : Nat) (hw : Cond.fieldLinkNest mi.2.2.2.2 index (cT c j).1 (cT c j).2.1 (cT c j).2.2.1 host ∈ NWS) (hc : c < 7) (hj : j < nF c) (hi : isI c j = false) (hsh : S.1[b]? = some (.inl c)) {id : Nat} (ht : S.2.1 b j = some id) (hd : decode mi.2.1 pc = .ok (.getfield index, 3)) (k : WP G R mi Qf kc ks (pc + 3) lv (.ref id :: st) S) : WP G R mi Qf kc ks pc lv (.ref b :: st) S := by
  intro p e s m args below meth c E H locs ls hW hS hl
  have eb : (gr G b) = G.2.1 + b := hW.gr hsh
  show W _ _ _ _ _ _ _ _ _ _ _ _ _ _ _ (F0 m pc ls (.ref (gr G b) :: st.map (rv G)))
  rw [eb]
  refine va_getN (v := rv G (.ref id)) E.1 E.2.1 E.2.2.2.2.2.1 (cf_in hc) E.2.2.2.2.1 E.2.2.2.2.2.2.2.2.1 hW.1 b (cells_at hsh) (cf_cl hc) j hj (va_Nw.use rfl (E.2.2.2.2.2.2.2.2.2.1.2.2.2.2.2.2.2.2.2.2.2 _ hw)) (fun x h => h) ?_ hd (k p e s m args below meth c E H locs ls hW hS hl)
  rw [List.getElem?_map, List.getElem?_range hj]
  simp only [Option.map_some, fv, hi, ht]
  rfl
end
