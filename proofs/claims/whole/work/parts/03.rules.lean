section ZR
variable {G : zLA} {p : Program} {l : Launch} {e : Env} {R : Room} {s : State} {m : MethodId} {args : Array Value} {below : List Frame} {meth : Method} {c : Code} {cells slots : Nat} {Q : State → Prop}
variable {own : String} {cc : ByteArray} {nL : Nat} {ret : Option FieldType} {pc : Nat} {lv : List (Nat × Value)} {st : List Value} {σ : zSt}

theorem z_iadd {x y : Int32} (C : zCx G p s m args meth c own cc nL ret) (d : decode cc pc = .ok (.iadd, 1))  (k : zWV G p l e R s m args below meth c nL cells slots Q (pc + 1) lv (.int (x + y) :: st) σ) : zWV G p l e R s m args below meth c nL cells slots Q pc lv (.int y :: .int x :: st) σ :=
  fun ls H locs hl hP hD hS => lv_iadd C.x C.b d (k ls H locs hl hP hD hS)
theorem z_isub {x y : Int32} (C : zCx G p s m args meth c own cc nL ret) (d : decode cc pc = .ok (.isub, 1))  (k : zWV G p l e R s m args below meth c nL cells slots Q (pc + 1) lv (.int (x - y) :: st) σ) : zWV G p l e R s m args below meth c nL cells slots Q pc lv (.int y :: .int x :: st) σ :=
  fun ls H locs hl hP hD hS => lv_isub C.x C.b d (k ls H locs hl hP hD hS)
theorem z_imul {x y : Int32} (C : zCx G p s m args meth c own cc nL ret) (d : decode cc pc = .ok (.imul, 1))  (k : zWV G p l e R s m args below meth c nL cells slots Q (pc + 1) lv (.int (x * y) :: st) σ) : zWV G p l e R s m args below meth c nL cells slots Q pc lv (.int y :: .int x :: st) σ :=
  fun ls H locs hl hP hD hS => lv_imul C.x C.b d (k ls H locs hl hP hD hS)
theorem z_iand {x y : Int32} (C : zCx G p s m args meth c own cc nL ret) (d : decode cc pc = .ok (.iand, 1))  (k : zWV G p l e R s m args below meth c nL cells slots Q (pc + 1) lv (.int (x &&& y) :: st) σ) : zWV G p l e R s m args below meth c nL cells slots Q pc lv (.int y :: .int x :: st) σ :=
  fun ls H locs hl hP hD hS => lv_iand C.x C.b d (k ls H locs hl hP hD hS)
theorem z_ior {x y : Int32} (C : zCx G p s m args meth c own cc nL ret) (d : decode cc pc = .ok (.ior, 1))  (k : zWV G p l e R s m args below meth c nL cells slots Q (pc + 1) lv (.int (x ||| y) :: st) σ) : zWV G p l e R s m args below meth c nL cells slots Q pc lv (.int y :: .int x :: st) σ :=
  fun ls H locs hl hP hD hS => lv_ior C.x C.b d (k ls H locs hl hP hD hS)
theorem z_ixor {x y : Int32} (C : zCx G p s m args meth c own cc nL ret) (d : decode cc pc = .ok (.ixor, 1))  (k : zWV G p l e R s m args below meth c nL cells slots Q (pc + 1) lv (.int (x ^^^ y) :: st) σ) : zWV G p l e R s m args below meth c nL cells slots Q pc lv (.int y :: .int x :: st) σ :=
  fun ls H locs hl hP hD hS => lv_ixor C.x C.b d (k ls H locs hl hP hD hS)
theorem z_ishl {x y : Int32} (C : zCx G p s m args meth c own cc nL ret) (d : decode cc pc = .ok (.ishl, 1))  (k : zWV G p l e R s m args below meth c nL cells slots Q (pc + 1) lv (.int (x <<< (y &&& 31)) :: st) σ) : zWV G p l e R s m args below meth c nL cells slots Q pc lv (.int y :: .int x :: st) σ :=
  fun ls H locs hl hP hD hS => lv_ishl C.x C.b d (k ls H locs hl hP hD hS)
theorem z_ishr {x y : Int32} (C : zCx G p s m args meth c own cc nL ret) (d : decode cc pc = .ok (.ishr, 1))  (k : zWV G p l e R s m args below meth c nL cells slots Q (pc + 1) lv (.int (x >>> (y &&& 31)) :: st) σ) : zWV G p l e R s m args below meth c nL cells slots Q pc lv (.int y :: .int x :: st) σ :=
  fun ls H locs hl hP hD hS => lv_ishr C.x C.b d (k ls H locs hl hP hD hS)
theorem z_iushr {x y : Int32} (C : zCx G p s m args meth c own cc nL ret) (d : decode cc pc = .ok (.iushr, 1))  (k : zWV G p l e R s m args below meth c nL cells slots Q (pc + 1) lv (.int ((x.toUInt32 >>> (y.toUInt32 &&& Int32.toUInt32 31)).toInt32) :: st) σ) : zWV G p l e R s m args below meth c nL cells slots Q pc lv (.int y :: .int x :: st) σ :=
  fun ls H locs hl hP hD hS => lv_iushr C.x C.b d rfl (k ls H locs hl hP hD hS)
theorem z_idiv {x y : Int32} (C : zCx G p s m args meth c own cc nL ret) (d : decode cc pc = .ok (.idiv, 1)) (hne : ¬ y = 0) (k : zWV G p l e R s m args below meth c nL cells slots Q (pc + 1) lv (.int (x / y) :: st) σ) : zWV G p l e R s m args below meth c nL cells slots Q pc lv (.int y :: .int x :: st) σ :=
  fun ls H locs hl hP hD hS => lv_idiv C.x C.b d hne (k ls H locs hl hP hD hS)
theorem z_irem {x y : Int32} (C : zCx G p s m args meth c own cc nL ret) (d : decode cc pc = .ok (.irem, 1)) (hne : ¬ y = 0) (k : zWV G p l e R s m args below meth c nL cells slots Q (pc + 1) lv (.int (x - x / y * y) :: st) σ) : zWV G p l e R s m args below meth c nL cells slots Q pc lv (.int y :: .int x :: st) σ :=
  fun ls H locs hl hP hD hS => lv_irem C.x C.b d hne (k ls H locs hl hP hD hS)
theorem z_ineg {x : Int32} (C : zCx G p s m args meth c own cc nL ret) (d : decode cc pc = .ok (.ineg, 1))  (k : zWV G p l e R s m args below meth c nL cells slots Q (pc + 1) lv (.int (-x) :: st) σ) : zWV G p l e R s m args below meth c nL cells slots Q pc lv (.int x :: st) σ :=
  fun ls H locs hl hP hD hS => lv_ineg C.x C.b d (k ls H locs hl hP hD hS)
theorem z_ladd {x y : Int64} (C : zCx G p s m args meth c own cc nL ret) (d : decode cc pc = .ok (.ladd, 1))  (k : zWV G p l e R s m args below meth c nL cells slots Q (pc + 1) lv (.long (x + y) :: st) σ) : zWV G p l e R s m args below meth c nL cells slots Q pc lv (.long y :: .long x :: st) σ :=
  fun ls H locs hl hP hD hS => lv_ladd C.x C.b d (k ls H locs hl hP hD hS)
theorem z_lsub {x y : Int64} (C : zCx G p s m args meth c own cc nL ret) (d : decode cc pc = .ok (.lsub, 1))  (k : zWV G p l e R s m args below meth c nL cells slots Q (pc + 1) lv (.long (x - y) :: st) σ) : zWV G p l e R s m args below meth c nL cells slots Q pc lv (.long y :: .long x :: st) σ :=
  fun ls H locs hl hP hD hS => lv_lsub C.x C.b d (k ls H locs hl hP hD hS)
theorem z_lmul {x y : Int64} (C : zCx G p s m args meth c own cc nL ret) (d : decode cc pc = .ok (.lmul, 1))  (k : zWV G p l e R s m args below meth c nL cells slots Q (pc + 1) lv (.long (x * y) :: st) σ) : zWV G p l e R s m args below meth c nL cells slots Q pc lv (.long y :: .long x :: st) σ :=
  fun ls H locs hl hP hD hS => lv_lmul C.x C.b d (k ls H locs hl hP hD hS)
theorem z_lrem {x y : Int64} (C : zCx G p s m args meth c own cc nL ret) (d : decode cc pc = .ok (.lrem, 1)) (hne : ¬ y = 0) (k : zWV G p l e R s m args below meth c nL cells slots Q (pc + 1) lv (.long (x - x / y * y) :: st) σ) : zWV G p l e R s m args below meth c nL cells slots Q pc lv (.long y :: .long x :: st) σ :=
  fun ls H locs hl hP hD hS => lv_lrem C.x C.b d hne (k ls H locs hl hP hD hS)
theorem z_lcmp {x y : Int64} (C : zCx G p s m args meth c own cc nL ret) (d : decode cc pc = .ok (.lcmp, 1))  (k : zWV G p l e R s m args below meth c nL cells slots Q (pc + 1) lv (.int (lg_cmp x y) :: st) σ) : zWV G p l e R s m args below meth c nL cells slots Q pc lv (.long y :: .long x :: st) σ :=
  fun ls H locs hl hP hD hS => W.lcmp C.x C.b d (k ls H locs hl hP hD hS)
theorem z_i2l {x : Int32} (C : zCx G p s m args meth c own cc nL ret) (d : decode cc pc = .ok (.i2l, 1))  (k : zWV G p l e R s m args below meth c nL cells slots Q (pc + 1) lv (.long x.toInt64 :: st) σ) : zWV G p l e R s m args below meth c nL cells slots Q pc lv (.int x :: st) σ :=
  fun ls H locs hl hP hD hS => lv_i2l C.x C.b d rfl (k ls H locs hl hP hD hS)
theorem z_l2i {x : Int64} (C : zCx G p s m args meth c own cc nL ret) (d : decode cc pc = .ok (.l2i, 1))  (k : zWV G p l e R s m args below meth c nL cells slots Q (pc + 1) lv (.int x.toInt32 :: st) σ) : zWV G p l e R s m args below meth c nL cells slots Q pc lv (.long x :: st) σ :=
  fun ls H locs hl hP hD hS => lv_l2i C.x C.b d rfl (k ls H locs hl hP hD hS)
theorem z_i2c {x : Int32} (C : zCx G p s m args meth c own cc nL ret) (d : decode cc pc = .ok (.i2c, 1))  (k : zWV G p l e R s m args below meth c nL cells slots Q (pc + 1) lv (.int (x.toUInt32 % 65536).toInt32 :: st) σ) : zWV G p l e R s m args below meth c nL cells slots Q pc lv (.int x :: st) σ :=
  fun ls H locs hl hP hD hS => lv_i2c C.x C.b d rfl (k ls H locs hl hP hD hS)
theorem z_i2d {x : Int32} (C : zCx G p s m args meth c own cc nL ret) (d : decode cc pc = .ok (.i2d, 1))  (k : zWV G p l e R s m args below meth c nL cells slots Q (pc + 1) lv (.double (FP.i2d x) :: st) σ) : zWV G p l e R s m args below meth c nL cells slots Q pc lv (.int x :: st) σ :=
  fun ls H locs hl hP hD hS => lv_i2d C.x C.b d (k ls H locs hl hP hD hS)
theorem z_i2f {x : Int32} (C : zCx G p s m args meth c own cc nL ret) (d : decode cc pc = .ok (.i2f, 1))  (k : zWV G p l e R s m args below meth c nL cells slots Q (pc + 1) lv (.float (FP.i2f x) :: st) σ) : zWV G p l e R s m args below meth c nL cells slots Q pc lv (.int x :: st) σ :=
  fun ls H locs hl hP hD hS => lv_i2f C.x C.b d (k ls H locs hl hP hD hS)
theorem z_f2d {x : UInt32} (C : zCx G p s m args meth c own cc nL ret) (d : decode cc pc = .ok (.f2d, 1)) (hne : vf_n64 (FP.f2d x)) (k : zWV G p l e R s m args below meth c nL cells slots Q (pc + 1) lv (.double (FP.f2d x) :: st) σ) : zWV G p l e R s m args below meth c nL cells slots Q pc lv (.float x :: st) σ :=
  fun ls H locs hl hP hD hS => lv_f2d C.x C.b d hne (k ls H locs hl hP hD hS)
theorem z_ddiv {x y : UInt64} (C : zCx G p s m args meth c own cc nL ret) (d : decode cc pc = .ok (.ddiv, 1)) (hne : vf_n64 (FP.ddiv x y)) (k : zWV G p l e R s m args below meth c nL cells slots Q (pc + 1) lv (.double (FP.ddiv x y) :: st) σ) : zWV G p l e R s m args below meth c nL cells slots Q pc lv (.double y :: .double x :: st) σ :=
  fun ls H locs hl hP hD hS => lv_ddiv C.x C.b d hne (k ls H locs hl hP hD hS)
theorem z_fdiv {x y : UInt32} (C : zCx G p s m args meth c own cc nL ret) (d : decode cc pc = .ok (.fdiv, 1)) (hne : vf_n32 (FP.fdiv x y)) (k : zWV G p l e R s m args below meth c nL cells slots Q (pc + 1) lv (.float (FP.fdiv x y) :: st) σ) : zWV G p l e R s m args below meth c nL cells slots Q pc lv (.float y :: .float x :: st) σ :=
  fun ls H locs hl hP hD hS => lv_fdiv C.x C.b d hne (k ls H locs hl hP hD hS)
theorem z_dcmp {x y : UInt64} {op : CmpOp} (C : zCx G p s m args meth c own cc nL ret) (d : decode cc pc = .ok (.dcmp op, 1))  (k : zWV G p l e R s m args below meth c nL cells slots Q (pc + 1) lv (.int (Op.cmpValue (FP.dcmp x y) op) :: st) σ) : zWV G p l e R s m args below meth c nL cells slots Q pc lv (.double y :: .double x :: st) σ :=
  fun ls H locs hl hP hD hS => lv_dcmp C.x C.b d (k ls H locs hl hP hD hS)
theorem z_dconst0  (C : zCx G p s m args meth c own cc nL ret) (d : decode cc pc = .ok (.dconst 0, 1))  (k : zWV G p l e R s m args below meth c nL cells slots Q (pc + 1) lv (.double FP.dconst0 :: st) σ) : zWV G p l e R s m args below meth c nL cells slots Q pc lv (st) σ :=
  fun ls H locs hl hP hD hS => lv_dconst0 C.x C.b d (k ls H locs hl hP hD hS)
theorem z_iconst {n : Int} {v : Int32} (C : zCx G p s m args meth c own cc nL ret) (d : decode cc pc = .ok (.iconst n, 1)) (hv : Int32.ofInt n = v) (k : zWV G p l e R s m args below meth c nL cells slots Q (pc + 1) lv (.int v :: st) σ) : zWV G p l e R s m args below meth c nL cells slots Q pc lv (st) σ :=
  fun ls H locs hl hP hD hS => lv_iconst C.x C.b d hv (k ls H locs hl hP hD hS)
theorem z_bipush {n : Int} {v : Int32} (C : zCx G p s m args meth c own cc nL ret) (d : decode cc pc = .ok (.bipush n, 2)) (hv : (Int8.ofInt n).toInt32 = v) (k : zWV G p l e R s m args below meth c nL cells slots Q (pc + 2) lv (.int v :: st) σ) : zWV G p l e R s m args below meth c nL cells slots Q pc lv (st) σ :=
  fun ls H locs hl hP hD hS => lv_bipush C.x C.b d hv (k ls H locs hl hP hD hS)
theorem z_sipush {n : Int} {v : Int32} (C : zCx G p s m args meth c own cc nL ret) (d : decode cc pc = .ok (.sipush n, 3)) (hv : (Int16.ofInt n).toInt32 = v) (k : zWV G p l e R s m args below meth c nL cells slots Q (pc + 3) lv (.int v :: st) σ) : zWV G p l e R s m args below meth c nL cells slots Q pc lv (st) σ :=
  fun ls H locs hl hP hD hS => lv_sipush C.x C.b d hv (k ls H locs hl hP hD hS)
theorem z_lconst {n : Fin 2} {v : Int64} (C : zCx G p s m args meth c own cc nL ret) (d : decode cc pc = .ok (.lconst n, 1)) (hv : Int64.ofNat (n : Nat) = v) (k : zWV G p l e R s m args below meth c nL cells slots Q (pc + 1) lv (.long v :: st) σ) : zWV G p l e R s m args below meth c nL cells slots Q pc lv (st) σ :=
  fun ls H locs hl hP hD hS => lv_lconst C.x C.b d hv (k ls H locs hl hP hD hS)
theorem z_ldc {index : Nat} {v : Int32} (C : zCx G p s m args meth c own cc nL ret) (d : decode cc pc = .ok (.ldc index, 2)) (hq : Cond.constant own index v ∈ zGW) (k : zWV G p l e R s m args below meth c nL cells slots Q (pc + 2) lv (.int v :: st) σ) : zWV G p l e R s m args below meth c nL cells slots Q pc lv (st) σ :=
  fun ls H locs hl hP hD hS => lv_ldc C.x C.b C.o (C.t _ hq) d (k ls H locs hl hP hD hS)
theorem z_ldcw {index : Nat} {v : Int32} (C : zCx G p s m args meth c own cc nL ret) (d : decode cc pc = .ok (.ldc_w index, 3)) (hq : Cond.constant own index v ∈ zGW) (k : zWV G p l e R s m args below meth c nL cells slots Q (pc + 3) lv (.int v :: st) σ) : zWV G p l e R s m args below meth c nL cells slots Q pc lv (st) σ :=
  fun ls H locs hl hP hD hS => lv_ldcw C.x C.b C.o (C.t _ hq) d (k ls H locs hl hP hD hS)
theorem z_ldc2 {index : Nat} {v : Int64} (C : zCx G p s m args meth c own cc nL ret) (d : decode cc pc = .ok (.ldc2_w index, 3)) (hq : Cond.constantLong own index v ∈ zGW) (k : zWV G p l e R s m args below meth c nL cells slots Q (pc + 3) lv (.long v :: st) σ) : zWV G p l e R s m args below meth c nL cells slots Q pc lv (st) σ :=
  fun ls H locs hl hP hD hS => lv_ldc2 C.x C.b C.o (C.t _ hq) d (k ls H locs hl hP hD hS)
theorem z_ldcf {index : Nat} {v : UInt32} (C : zCx G p s m args meth c own cc nL ret) (d : decode cc pc = .ok (.ldc index, 2)) (hq : Cond.constantFloat own index v ∈ zGW) (k : zWV G p l e R s m args below meth c nL cells slots Q (pc + 2) lv (.float v :: st) σ) : zWV G p l e R s m args below meth c nL cells slots Q pc lv (st) σ :=
  fun ls H locs hl hP hD hS => lv_ldcf C.x C.b C.o (C.t _ hq) d (k ls H locs hl hP hD hS)
theorem z_dup {va : Value} (C : zCx G p s m args meth c own cc nL ret) (d : decode cc pc = .ok (.dup, 1)) (hva : va.category = 1) (k : zWV G p l e R s m args below meth c nL cells slots Q (pc + 1) lv (va :: va :: st) σ) : zWV G p l e R s m args below meth c nL cells slots Q pc lv (va :: st) σ :=
  fun ls H locs hl hP hD hS => lv_dup C.x C.b d hva (k ls H locs hl hP hD hS)
theorem z_pop {va : Value} (C : zCx G p s m args meth c own cc nL ret) (d : decode cc pc = .ok (.pop, 1)) (hva : va.category = 1) (k : zWV G p l e R s m args below meth c nL cells slots Q (pc + 1) lv (st) σ) : zWV G p l e R s m args below meth c nL cells slots Q pc lv (va :: st) σ :=
  fun ls H locs hl hP hD hS => lv_pop C.x C.b d hva (k ls H locs hl hP hD hS)
theorem z_dup2 {va vb : Value} (C : zCx G p s m args meth c own cc nL ret) (d : decode cc pc = .ok (.dup2, 1)) (hva : va.category = 1) (hvb : vb.category = 1) (k : zWV G p l e R s m args below meth c nL cells slots Q (pc + 1) lv (va :: vb :: va :: vb :: st) σ) : zWV G p l e R s m args below meth c nL cells slots Q pc lv (va :: vb :: st) σ :=
  fun ls H locs hl hP hD hS => lv_dup2_11 C.x C.b d hva hvb (k ls H locs hl hP hD hS)
theorem z_iload_n {k : Fin 4} {i : Nat} {x : Int32} (C : zCx G p s m args meth c own cc nL ret) (d : decode cc pc = .ok (.iload_n k, 1)) (j : Nat) (h : lv[j]? = some (i, .int x)) (hi : (k : Nat) = i) (kk : zWV G p l e R s m args below meth c nL cells slots Q (pc + 1) lv (.int x :: st) σ) : zWV G p l e R s m args below meth c nL cells slots Q pc lv st σ :=
  fun ls H locs hl hP hD hS => lv_iload_n C.x C.b d hi (lv_at hl j h) (kk ls H locs hl hP hD hS)
theorem z_aload_n {k : Fin 4} {i : Nat} {x : Nat} (C : zCx G p s m args meth c own cc nL ret) (d : decode cc pc = .ok (.aload_n k, 1)) (j : Nat) (h : lv[j]? = some (i, .ref x)) (hi : (k : Nat) = i) (kk : zWV G p l e R s m args below meth c nL cells slots Q (pc + 1) lv (.ref x :: st) σ) : zWV G p l e R s m args below meth c nL cells slots Q pc lv st σ :=
  fun ls H locs hl hP hD hS => lv_aload_n C.x C.b d hi (lv_at hl j h) (kk ls H locs hl hP hD hS)
theorem z_lload_n {k : Fin 4} {i : Nat} {x : Int64} (C : zCx G p s m args meth c own cc nL ret) (d : decode cc pc = .ok (.lload_n k, 1)) (j : Nat) (h : lv[j]? = some (i, .long x)) (hi : (k : Nat) = i) (kk : zWV G p l e R s m args below meth c nL cells slots Q (pc + 1) lv (.long x :: st) σ) : zWV G p l e R s m args below meth c nL cells slots Q pc lv st σ :=
  fun ls H locs hl hP hD hS => lv_lload_n C.x C.b d hi (lv_at hl j h) (kk ls H locs hl hP hD hS)
theorem z_iload {i : Nat} {x : Int32} (C : zCx G p s m args meth c own cc nL ret) (d : decode cc pc = .ok (.iload i, 2)) (j : Nat) (h : lv[j]? = some (i, .int x)) (kk : zWV G p l e R s m args below meth c nL cells slots Q (pc + 2) lv (.int x :: st) σ) : zWV G p l e R s m args below meth c nL cells slots Q pc lv st σ :=
  fun ls H locs hl hP hD hS => lv_iload C.x C.b d (lv_at hl j h) (kk ls H locs hl hP hD hS)
theorem z_aload {i : Nat} {x : Nat} (C : zCx G p s m args meth c own cc nL ret) (d : decode cc pc = .ok (.aload i, 2)) (j : Nat) (h : lv[j]? = some (i, .ref x)) (kk : zWV G p l e R s m args below meth c nL cells slots Q (pc + 2) lv (.ref x :: st) σ) : zWV G p l e R s m args below meth c nL cells slots Q pc lv st σ :=
  fun ls H locs hl hP hD hS => lv_aload C.x C.b d (lv_at hl j h) (kk ls H locs hl hP hD hS)
theorem z_dload {i : Nat} {x : UInt64} (C : zCx G p s m args meth c own cc nL ret) (d : decode cc pc = .ok (.dload i, 2)) (j : Nat) (h : lv[j]? = some (i, .double x)) (kk : zWV G p l e R s m args below meth c nL cells slots Q (pc + 2) lv (.double x :: st) σ) : zWV G p l e R s m args below meth c nL cells slots Q pc lv st σ :=
  fun ls H locs hl hP hD hS => lv_dload C.x C.b d (lv_at hl j h) (kk ls H locs hl hP hD hS)
def zdl (i : Nat) (lv : List (Nat × Value)) : List (Nat × Value) := lv.filter (fun q => !(q.1 == i) && !(q.1 + 1 == i && q.2.category == 2))
def zdl2 (i : Nat) (lv : List (Nat × Value)) : List (Nat × Value) := lv.filter (fun q => !(q.1 == i) && (!(q.1 == i + 1) && !(q.1 + 1 == i && q.2.category == 2)))
theorem z_istore_n {k : Fin 4} {i : Nat} {x : Int32} (C : zCx G p s m args meth c own cc nL ret) (d : decode cc pc = .ok (.istore_n k, 1)) (hi : (k : Nat) = i) (hn : i < nL) (kk : zWV G p l e R s m args below meth c nL cells slots Q (pc + 1) ((i, .int x) :: zdl i lv) st σ) : zWV G p l e R s m args below meth c nL cells slots Q pc lv (.int x :: st) σ :=
  fun ls H locs hl hP hD hS => lv_istore_n C.x C.b d hi hl hn rfl (fun ls hl => kk ls H locs hl hP hD hS)
theorem z_istore {i : Nat} {x : Int32} (C : zCx G p s m args meth c own cc nL ret) (d : decode cc pc = .ok (.istore i, 2)) (hn : i < nL) (kk : zWV G p l e R s m args below meth c nL cells slots Q (pc + 2) ((i, .int x) :: zdl i lv) st σ) : zWV G p l e R s m args below meth c nL cells slots Q pc lv (.int x :: st) σ :=
  fun ls H locs hl hP hD hS => lv_istore C.x C.b d hl hn rfl (fun ls hl => kk ls H locs hl hP hD hS)
theorem z_astore_n {k : Fin 4} {i : Nat} {x : Nat} (C : zCx G p s m args meth c own cc nL ret) (d : decode cc pc = .ok (.astore_n k, 1)) (hi : (k : Nat) = i) (hn : i < nL) (kk : zWV G p l e R s m args below meth c nL cells slots Q (pc + 1) ((i, .ref x) :: zdl i lv) st σ) : zWV G p l e R s m args below meth c nL cells slots Q pc lv (.ref x :: st) σ :=
  fun ls H locs hl hP hD hS => lv_astore_n C.x C.b d hi hl hn rfl (fun ls hl => kk ls H locs hl hP hD hS)
theorem z_astore {i : Nat} {x : Nat} (C : zCx G p s m args meth c own cc nL ret) (d : decode cc pc = .ok (.astore i, 2)) (hn : i < nL) (kk : zWV G p l e R s m args below meth c nL cells slots Q (pc + 2) ((i, .ref x) :: zdl i lv) st σ) : zWV G p l e R s m args below meth c nL cells slots Q pc lv (.ref x :: st) σ :=
  fun ls H locs hl hP hD hS => lv_astore C.x C.b d hl hn rfl (fun ls hl => kk ls H locs hl hP hD hS)
theorem z_lstore_n {k : Fin 4} {i : Nat} {x : Int64} (C : zCx G p s m args meth c own cc nL ret) (d : decode cc pc = .ok (.lstore_n k, 1)) (hi : (k : Nat) = i) (hn : i + 1 < nL) (kk : zWV G p l e R s m args below meth c nL cells slots Q (pc + 1) ((i, .long x) :: zdl2 i lv) st σ) : zWV G p l e R s m args below meth c nL cells slots Q pc lv (.long x :: st) σ :=
  fun ls H locs hl hP hD hS => lv_lstore_n C.x C.b d hi hl hn rfl (fun ls hl => kk ls H locs hl hP hD hS)
theorem z_dstore {i : Nat} {x : UInt64} (C : zCx G p s m args meth c own cc nL ret) (d : decode cc pc = .ok (.dstore i, 2)) (hn : i + 1 < nL) (kk : zWV G p l e R s m args below meth c nL cells slots Q (pc + 2) ((i, .double x) :: zdl2 i lv) st σ) : zWV G p l e R s m args below meth c nL cells slots Q pc lv (.double x :: st) σ :=
  fun ls H locs hl hP hD hS => lv_dstore C.x C.b d hl hn rfl (fun ls hl => kk ls H locs hl hP hD hS)
theorem z_iinc {i : Nat} {n : Int} {x v : Int32} (C : zCx G p s m args meth c own cc nL ret) (d : decode cc pc = .ok (.iinc i n, 3)) (j : Nat) (h : lv[j]? = some (i, .int x)) (hv : Int32.ofInt n = v) (hn : i < nL) (kk : zWV G p l e R s m args below meth c nL cells slots Q (pc + 3) ((i, .int (x + v)) :: zdl i lv) st σ) : zWV G p l e R s m args below meth c nL cells slots Q pc lv st σ :=
  fun ls H locs hl hP hD hS => lv_iinc C.x C.b d hl h (congrArg (fun z => x + z) hv) hn rfl (fun ls hl => kk ls H locs hl hP hD hS)
theorem z_if_eq {x : Int32} {off : Int} {tgt : Nat} (C : zCx G p s m args meth c own cc nL ret) (d : decode cc pc = .ok (.ifCond .eq off, 3)) (ht : (pc : Int) + off = (tgt : Int)) (kt : x = 0 → zWV G p l e R s m args below meth c nL cells slots Q tgt lv st σ) (kf : ¬ x = 0 → zWV G p l e R s m args below meth c nL cells slots Q (pc + 3) lv st σ) : zWV G p l e R s m args below meth c nL cells slots Q pc lv (.int x :: st) σ :=
  fun ls H locs hl hP hD hS => lv_if_eq C.x C.b d ht (fun h => kt h ls H locs hl hP hD hS) (fun h => kf h ls H locs hl hP hD hS)
theorem z_if_ne {x : Int32} {off : Int} {tgt : Nat} (C : zCx G p s m args meth c own cc nL ret) (d : decode cc pc = .ok (.ifCond .ne off, 3)) (ht : (pc : Int) + off = (tgt : Int)) (kt : ¬ x = 0 → zWV G p l e R s m args below meth c nL cells slots Q tgt lv st σ) (kf : x = 0 → zWV G p l e R s m args below meth c nL cells slots Q (pc + 3) lv st σ) : zWV G p l e R s m args below meth c nL cells slots Q pc lv (.int x :: st) σ :=
  fun ls H locs hl hP hD hS => lv_if_ne C.x C.b d ht (fun h => kt h ls H locs hl hP hD hS) (fun h => kf h ls H locs hl hP hD hS)
theorem z_if_lt {x : Int32} {off : Int} {tgt : Nat} (C : zCx G p s m args meth c own cc nL ret) (d : decode cc pc = .ok (.ifCond .lt off, 3)) (ht : (pc : Int) + off = (tgt : Int)) (kt : x < 0 → zWV G p l e R s m args below meth c nL cells slots Q tgt lv st σ) (kf : ¬ x < 0 → zWV G p l e R s m args below meth c nL cells slots Q (pc + 3) lv st σ) : zWV G p l e R s m args below meth c nL cells slots Q pc lv (.int x :: st) σ :=
  fun ls H locs hl hP hD hS => lv_if_lt C.x C.b d ht (fun h => kt h ls H locs hl hP hD hS) (fun h => kf h ls H locs hl hP hD hS)
theorem z_if_ge {x : Int32} {off : Int} {tgt : Nat} (C : zCx G p s m args meth c own cc nL ret) (d : decode cc pc = .ok (.ifCond .ge off, 3)) (ht : (pc : Int) + off = (tgt : Int)) (kt : 0 ≤ x → zWV G p l e R s m args below meth c nL cells slots Q tgt lv st σ) (kf : ¬ 0 ≤ x → zWV G p l e R s m args below meth c nL cells slots Q (pc + 3) lv st σ) : zWV G p l e R s m args below meth c nL cells slots Q pc lv (.int x :: st) σ :=
  fun ls H locs hl hP hD hS => lv_if_ge C.x C.b d ht (fun h => kt h ls H locs hl hP hD hS) (fun h => kf h ls H locs hl hP hD hS)
theorem z_if_gt {x : Int32} {off : Int} {tgt : Nat} (C : zCx G p s m args meth c own cc nL ret) (d : decode cc pc = .ok (.ifCond .gt off, 3)) (ht : (pc : Int) + off = (tgt : Int)) (kt : 0 < x → zWV G p l e R s m args below meth c nL cells slots Q tgt lv st σ) (kf : ¬ 0 < x → zWV G p l e R s m args below meth c nL cells slots Q (pc + 3) lv st σ) : zWV G p l e R s m args below meth c nL cells slots Q pc lv (.int x :: st) σ :=
  fun ls H locs hl hP hD hS => lv_if_gt C.x C.b d ht (fun h => kt h ls H locs hl hP hD hS) (fun h => kf h ls H locs hl hP hD hS)
theorem z_if_le {x : Int32} {off : Int} {tgt : Nat} (C : zCx G p s m args meth c own cc nL ret) (d : decode cc pc = .ok (.ifCond .le off, 3)) (ht : (pc : Int) + off = (tgt : Int)) (kt : x ≤ 0 → zWV G p l e R s m args below meth c nL cells slots Q tgt lv st σ) (kf : ¬ x ≤ 0 → zWV G p l e R s m args below meth c nL cells slots Q (pc + 3) lv st σ) : zWV G p l e R s m args below meth c nL cells slots Q pc lv (.int x :: st) σ :=
  fun ls H locs hl hP hD hS => lv_if_le C.x C.b d ht (fun h => kt h ls H locs hl hP hD hS) (fun h => kf h ls H locs hl hP hD hS)
theorem z_icmp_eq {x y : Int32} {off : Int} {tgt : Nat} (C : zCx G p s m args meth c own cc nL ret) (d : decode cc pc = .ok (.if_icmp .eq off, 3)) (ht : (pc : Int) + off = (tgt : Int)) (kt : x = y → zWV G p l e R s m args below meth c nL cells slots Q tgt lv st σ) (kf : ¬ x = y → zWV G p l e R s m args below meth c nL cells slots Q (pc + 3) lv st σ) : zWV G p l e R s m args below meth c nL cells slots Q pc lv (.int y :: .int x :: st) σ :=
  fun ls H locs hl hP hD hS => lv_icmp_eq C.x C.b d ht (fun h => kt h ls H locs hl hP hD hS) (fun h => kf h ls H locs hl hP hD hS)
theorem z_icmp_ne {x y : Int32} {off : Int} {tgt : Nat} (C : zCx G p s m args meth c own cc nL ret) (d : decode cc pc = .ok (.if_icmp .ne off, 3)) (ht : (pc : Int) + off = (tgt : Int)) (kt : ¬ x = y → zWV G p l e R s m args below meth c nL cells slots Q tgt lv st σ) (kf : x = y → zWV G p l e R s m args below meth c nL cells slots Q (pc + 3) lv st σ) : zWV G p l e R s m args below meth c nL cells slots Q pc lv (.int y :: .int x :: st) σ :=
  fun ls H locs hl hP hD hS => lv_icmp_ne C.x C.b d ht (fun h => kt h ls H locs hl hP hD hS) (fun h => kf h ls H locs hl hP hD hS)
theorem z_icmp_lt {x y : Int32} {off : Int} {tgt : Nat} (C : zCx G p s m args meth c own cc nL ret) (d : decode cc pc = .ok (.if_icmp .lt off, 3)) (ht : (pc : Int) + off = (tgt : Int)) (kt : x < y → zWV G p l e R s m args below meth c nL cells slots Q tgt lv st σ) (kf : ¬ x < y → zWV G p l e R s m args below meth c nL cells slots Q (pc + 3) lv st σ) : zWV G p l e R s m args below meth c nL cells slots Q pc lv (.int y :: .int x :: st) σ :=
  fun ls H locs hl hP hD hS => lv_icmp_lt C.x C.b d ht (fun h => kt h ls H locs hl hP hD hS) (fun h => kf h ls H locs hl hP hD hS)
theorem z_icmp_ge {x y : Int32} {off : Int} {tgt : Nat} (C : zCx G p s m args meth c own cc nL ret) (d : decode cc pc = .ok (.if_icmp .ge off, 3)) (ht : (pc : Int) + off = (tgt : Int)) (kt : y ≤ x → zWV G p l e R s m args below meth c nL cells slots Q tgt lv st σ) (kf : ¬ y ≤ x → zWV G p l e R s m args below meth c nL cells slots Q (pc + 3) lv st σ) : zWV G p l e R s m args below meth c nL cells slots Q pc lv (.int y :: .int x :: st) σ :=
  fun ls H locs hl hP hD hS => lv_icmp_ge C.x C.b d ht (fun h => kt h ls H locs hl hP hD hS) (fun h => kf h ls H locs hl hP hD hS)
theorem z_icmp_gt {x y : Int32} {off : Int} {tgt : Nat} (C : zCx G p s m args meth c own cc nL ret) (d : decode cc pc = .ok (.if_icmp .gt off, 3)) (ht : (pc : Int) + off = (tgt : Int)) (kt : y < x → zWV G p l e R s m args below meth c nL cells slots Q tgt lv st σ) (kf : ¬ y < x → zWV G p l e R s m args below meth c nL cells slots Q (pc + 3) lv st σ) : zWV G p l e R s m args below meth c nL cells slots Q pc lv (.int y :: .int x :: st) σ :=
  fun ls H locs hl hP hD hS => lv_icmp_gt C.x C.b d ht (fun h => kt h ls H locs hl hP hD hS) (fun h => kf h ls H locs hl hP hD hS)
theorem z_icmp_le {x y : Int32} {off : Int} {tgt : Nat} (C : zCx G p s m args meth c own cc nL ret) (d : decode cc pc = .ok (.if_icmp .le off, 3)) (ht : (pc : Int) + off = (tgt : Int)) (kt : x ≤ y → zWV G p l e R s m args below meth c nL cells slots Q tgt lv st σ) (kf : ¬ x ≤ y → zWV G p l e R s m args below meth c nL cells slots Q (pc + 3) lv st σ) : zWV G p l e R s m args below meth c nL cells slots Q pc lv (.int y :: .int x :: st) σ :=
  fun ls H locs hl hP hD hS => lv_icmp_le C.x C.b d ht (fun h => kt h ls H locs hl hP hD hS) (fun h => kf h ls H locs hl hP hD hS)
theorem z_goto {off : Int} {tgt : Nat} (C : zCx G p s m args meth c own cc nL ret) (d : decode cc pc = .ok (.goto off, 3)) (ht : (pc : Int) + off = (tgt : Int)) (k : zWV G p l e R s m args below meth c nL cells slots Q tgt lv st σ) : zWV G p l e R s m args below meth c nL cells slots Q pc lv st σ :=
  fun ls H locs hl hP hD hS => lv_goto C.x C.b d ht (k ls H locs hl hP hD hS)
theorem z_sub (ks : List Nat) {lv1 : List (Nat × Value)} (hl1 : lv_pick lv ks = lv1) (k : zWV G p l e R s m args below meth c nL cells slots Q pc lv1 st σ) : zWV G p l e R s m args below meth c nL cells slots Q pc lv st σ :=
  fun ls H locs hl hP hD hS => k ls H locs (lv_sub hl ks hl1) hP hD hS
theorem z_tout {dflt lo hi : Int} {offs : Array Int} {len : Nat} {x : Int32} {tgt : Nat} (C : zCx G p s m args meth c own cc nL ret) (d : decode cc pc = .ok (.tableswitch dflt lo hi offs, len)) (h : x.toInt < lo ∨ hi < x.toInt) (ht : (pc : Int) + dflt = (tgt : Int)) (k : zWV G p l e R s m args below meth c nL cells slots Q tgt lv st σ) : zWV G p l e R s m args below meth c nL cells slots Q pc lv (.int x :: st) σ :=
  fun ls H locs hl hP hD hS => lv_tableOut C.x C.b d h ht (k ls H locs hl hP hD hS)
theorem z_tin {dflt lo hi : Int} {offs : Array Int} {len : Nat} {x : Int32} {off : Int} {tgt : Nat} (C : zCx G p s m args meth c own cc nL ret) (d : decode cc pc = .ok (.tableswitch dflt lo hi offs, len)) (h1 : ¬ x.toInt < lo) (h2 : ¬ hi < x.toInt) (ho : offs[(x.toInt - lo).toNat]? = some off) (ht : (pc : Int) + off = (tgt : Int)) (k : zWV G p l e R s m args below meth c nL cells slots Q tgt lv st σ) : zWV G p l e R s m args below meth c nL cells slots Q pc lv (.int x :: st) σ :=
  fun ls H locs hl hP hD hS => lv_tableIn C.x C.b d h1 h2 ho ht (k ls H locs hl hP hD hS)
theorem z_look {dflt : Int} {ps : Array (Int × Int)} {len : Nat} {x : Int32} {off : Int} {tgt : Nat} (C : zCx G p s m args meth c own cc nL ret) (d : decode cc pc = .ok (.lookupswitch dflt ps, len)) (hp : (ps.toList.zip (ps.toList.drop 1)).all (fun (a, next) => a.1 < next.1) = true) (ho : Op.lookupswitch.offset ps.toList dflt x.toInt = off) (ht : (pc : Int) + off = (tgt : Int)) (k : zWV G p l e R s m args below meth c nL cells slots Q tgt lv st σ) : zWV G p l e R s m args below meth c nL cells slots Q pc lv (.int x :: st) σ :=
  fun ls H locs hl hP hD hS => lv_lookup C.x C.b d hp ho ht (k ls H locs hl hP hD hS)
theorem z_get (C : zCx G p s m args meth c own cc nL ret) {ref Cn : String} {T : u_T} {N ci index : Nat} (hin : ∀ w ∈ u_ws Cn T N, w ∈ zGW) (hc : zcl[ci]? = some (Cn, T, N)) (k : Nat) (hk : k < N) (hlink : Cond.fieldLink own index ref (T k).2.1 (T k).2.2.1 ∈ zGW) (hsame : (T k).1 = ref) {g o : Nat} {fs : List Value} {v : Value} (hlive : (g, o) ∈ zcells) (he : zct G σ g o = .inr (ci, fs)) (hv : fs[k]? = some v) (d : decode cc pc = .ok (.getfield index, 3)) (kk : zWV G p l e R s m args below meth c nL cells slots Q (pc + 3) lv (v :: st) σ) : zWV G p l e R s m args below meth c nL cells slots Q pc lv (.ref (zad G g o) :: st) σ := by
  intro ls H locs hl hP hD hS
  obtain ⟨q, hq⟩ := zin hlive
  exact va_get (D := zD G) C.x C.b C.t hin C.o C.K hP q ((zwd_at G σ hq).trans (by rw [he])) hc k hk (C.t _ hlink) (fun x hx => by rw [← hsame]; exact hx) hv d (kk ls H locs hl hP hD hS)
theorem z_getN (C : zCx G p s m args meth c own cc nL ret) {ref Cn host : String} {T : u_T} {N ci index : Nat} (hin : ∀ w ∈ u_ws Cn T N, w ∈ zGW) (hc : zcl[ci]? = some (Cn, T, N)) (k : Nat) (hk : k < N) (hlink : Cond.fieldLinkNest own index ref (T k).2.1 (T k).2.2.1 host ∈ zNW) (hsame : (T k).1 = ref) {g o : Nat} {fs : List Value} {v : Value} (hlive : (g, o) ∈ zcells) (he : zct G σ g o = .inr (ci, fs)) (hv : fs[k]? = some v) (d : decode cc pc = .ok (.getfield index, 3)) (kk : zWV G p l e R s m args below meth c nL cells slots Q (pc + 3) lv (v :: st) σ) : zWV G p l e R s m args below meth c nL cells slots Q pc lv (.ref (zad G g o) :: st) σ := by
  intro ls H locs hl hP hD hS
  obtain ⟨q, hq⟩ := zin hlive
  exact va_getN (D := zD G) C.x C.b C.t hin C.o C.K hP q ((zwd_at G σ hq).trans (by rw [he])) hc k hk (va_Nw.use rfl (C.w _ hlink)) (fun x hx => by rw [← hsame]; exact hx) hv d (kk ls H locs hl hP hD hS)
theorem z_put (C : zCx G p s m args meth c own cc nL ret) {ref Cn : String} {T : u_T} {ty0 : Nat → FieldType} {N ci index : Nat} (hin : ∀ w ∈ u_ws Cn T N, w ∈ zGW) (hty : ∀ k, k < N → parseFieldDescriptor (T k).2.2.1 = some (ty0 k)) (hnm : ∀ a, a < N → ∀ b, b < N → a ≠ b → (T a).2.1 ≠ (T b).2.1) (hc : zcl[ci]? = some (Cn, T, N)) (k : Nat) (hk : k < N) (hlink : Cond.fieldLink own index ref (T k).2.1 (T k).2.2.1 ∈ zGW) (hsame : (T k).1 = ref) (hfin : (T k).2.2.2 = false) (hd : parseFieldDescriptor (T k).2.2.1 = some .int) {g o : Nat} {fs : List Value} {v : Int32} (hlive : (g, o) ∈ zcells) (he : zct G σ g o = .inr (ci, fs)) (hl0 : k < fs.length) (hset : zshp G g o (upd (σ.1 g o) k v) (σ.2.1 o) (σ.2.2 o) = .inr (ci, fs.set k (.int v))) (d : decode cc pc = .ok (.putfield index, 3)) (kk : zWV G p l e R s m args below meth c nL cells slots Q (pc + 3) lv st (zst σ g o k v)) : zWV G p l e R s m args below meth c nL cells slots Q pc lv (.int v :: .ref (zad G g o) :: st) σ := by
  intro ls H locs hl hP hD hS
  obtain ⟨q, hq⟩ := zin hlive
  have e := zwd_set (G := G) (σ := σ) (σ' := zst σ g o k v) (e := .inr (ci, fs.set k (.int v))) hq (hset.symm.trans zct_st_self.symm) (fun _ _ h => zct_st h)
  exact va_put (D := zD G) C.x C.b C.t hin ty0 hty hnm C.o C.K hP hD hS q ((zwd_at G σ hq).trans (by rw [he])) hc k hk (C.t _ hlink) (fun x hx => by rw [← hsame]; exact hx) hfin hd rfl rfl hl0 d (fun H1 locs1 hP1 hD1 hS1 => kk ls H1 locs1 hl (e ▸ hP1) (e ▸ hD1) hS1)
theorem z_putN (C : zCx G p s m args meth c own cc nL ret) {ref Cn host : String} {T : u_T} {ty0 : Nat → FieldType} {N ci index : Nat} (hin : ∀ w ∈ u_ws Cn T N, w ∈ zGW) (hty : ∀ k, k < N → parseFieldDescriptor (T k).2.2.1 = some (ty0 k)) (hnm : ∀ a, a < N → ∀ b, b < N → a ≠ b → (T a).2.1 ≠ (T b).2.1) (hc : zcl[ci]? = some (Cn, T, N)) (k : Nat) (hk : k < N) (hlink : Cond.fieldLinkNest own index ref (T k).2.1 (T k).2.2.1 host ∈ zNW) (hsame : (T k).1 = ref) (hfin : (T k).2.2.2 = false) (hd : parseFieldDescriptor (T k).2.2.1 = some .int) {g o : Nat} {fs : List Value} {v : Int32} (hlive : (g, o) ∈ zcells) (he : zct G σ g o = .inr (ci, fs)) (hl0 : k < fs.length) (hset : zshp G g o (upd (σ.1 g o) k v) (σ.2.1 o) (σ.2.2 o) = .inr (ci, fs.set k (.int v))) (d : decode cc pc = .ok (.putfield index, 3)) (kk : zWV G p l e R s m args below meth c nL cells slots Q (pc + 3) lv st (zst σ g o k v)) : zWV G p l e R s m args below meth c nL cells slots Q pc lv (.int v :: .ref (zad G g o) :: st) σ := by
  intro ls H locs hl hP hD hS
  obtain ⟨q, hq⟩ := zin hlive
  have e := zwd_set (G := G) (σ := σ) (σ' := zst σ g o k v) (e := .inr (ci, fs.set k (.int v))) hq (hset.symm.trans zct_st_self.symm) (fun _ _ h => zct_st h)
  exact va_putN (D := zD G) C.x C.b C.t hin ty0 hty hnm C.o C.K hP hD hS q ((zwd_at G σ hq).trans (by rw [he])) hc k hk (va_Nw.use rfl (C.w _ hlink)) (fun x hx => by rw [← hsame]; exact hx) hfin hd rfl rfl hl0 d (fun H1 locs1 hP1 hD1 hS1 => kk ls H1 locs1 hl (e ▸ hP1) (e ▸ hD1) hS1)
theorem zct_sl {o : Nat} {x : Int64} {g' o' : Nat} (h : o' ≠ o) : zct G (zsl σ o x) g' o' = zct G σ g' o' := by
  show zshp G g' o' (σ.1 g' o') (if o' = o then x else σ.2.1 o') (σ.2.2 o') = _
  rw [if_neg h]
theorem z_putL (C : zCx G p s m args meth c own cc nL ret) {ref Cn : String} {T : u_T} {ty0 : Nat → FieldType} {N ci index : Nat} (hin : ∀ w ∈ u_ws Cn T N, w ∈ zGW) (hty : ∀ k, k < N → parseFieldDescriptor (T k).2.2.1 = some (ty0 k)) (hnm : ∀ a, a < N → ∀ b, b < N → a ≠ b → (T a).2.1 ≠ (T b).2.1) (hc : zcl[ci]? = some (Cn, T, N)) (k : Nat) (hk : k < N) (hlink : Cond.fieldLink own index ref (T k).2.1 (T k).2.2.1 ∈ zGW) (hsame : (T k).1 = ref) (hfin : (T k).2.2.2 = false) (hd : parseFieldDescriptor (T k).2.2.1 = some .long) {g o : Nat} {fs : List Value} {v : Int64} (hlive : (g, o) ∈ zcells) (hone : ∀ g' : Nat, zct G (zsl σ o v) g' o = zct G σ g' o ∨ g' = g) (he : zct G σ g o = .inr (ci, fs)) (hl0 : k < fs.length) (hset : zshp G g o (σ.1 g o) v (σ.2.2 o) = .inr (ci, fs.set k (.long v))) (d : decode cc pc = .ok (.putfield index, 3)) (kk : zWV G p l e R s m args below meth c nL cells slots Q (pc + 3) lv st (zsl σ o v)) : zWV G p l e R s m args below meth c nL cells slots Q pc lv (.long v :: .ref (zad G g o) :: st) σ := by
  intro ls H locs hl hP hD hS
  obtain ⟨q, hq⟩ := zin hlive
  have e := zwd_set (G := G) (σ := σ) (σ' := zsl σ o v) (e := .inr (ci, fs.set k (.long v))) hq (hset.symm.trans (by show _ = zshp G g o (σ.1 g o) (if o = o then v else σ.2.1 o) (σ.2.2 o); rw [if_pos rfl])) (fun g' o' h => by
    by_cases ho : o' = o
    · subst ho
      rcases hone g' with h1 | h1
      · exact h1
      · subst h1; exact absurd rfl h
    · exact zct_sl ho)
  exact va_put (D := zD G) C.x C.b C.t hin ty0 hty hnm C.o C.K hP hD hS q ((zwd_at G σ hq).trans (by rw [he])) hc k hk (C.t _ hlink) (fun x hx => by rw [← hsame]; exact hx) hfin hd rfl rfl hl0 d (fun H1 locs1 hP1 hD1 hS1 => kk ls H1 locs1 hl (e ▸ hP1) (e ▸ hD1) hS1)
theorem z_iald (C : zCx G p s m args meth c own cc nL ret) {g o n : Nat} {i : Int32} (hlive : (g, o) ∈ zcells) (he : zct G σ g o = .inl (zaC G 0, n, .inl (σ.1 g o))) (hin : vp_in i n) (d : decode cc pc = .ok (.iaload, 1)) (kk : zWV G p l e R s m args below meth c nL cells slots Q (pc + 1) lv (.int (σ.1 g o i.toNatClampNeg) :: st) σ) : zWV G p l e R s m args below meth c nL cells slots Q pc lv (.int i :: .ref (zad G g o) :: st) σ := by
  intro ls H locs hl hP hD hS
  obtain ⟨q, hq⟩ := zin hlive
  exact va_iald C.x C.b C.K hP q 0 ((zwd_at G σ hq).trans (by rw [he])) rfl hin d (kk ls H locs hl hP hD hS)
theorem z_zald (C : zCx G p s m args meth c own cc nL ret) {g o n : Nat} {i : Int32} (hlive : (g, o) ∈ zcells) (he : zct G σ g o = .inl (zaC G 1, n, .inl (σ.1 g o))) (hin : vp_in i n) (d : decode cc pc = .ok (.baload, 1)) (kk : zWV G p l e R s m args below meth c nL cells slots Q (pc + 1) lv (.int (σ.1 g o i.toNatClampNeg) :: st) σ) : zWV G p l e R s m args below meth c nL cells slots Q pc lv (.int i :: .ref (zad G g o) :: st) σ := by
  intro ls H locs hl hP hD hS
  obtain ⟨q, hq⟩ := zin hlive
  exact va_zald C.x C.b C.K hP q 1 ((zwd_at G σ hq).trans (by rw [he])) rfl hin d (kk ls H locs hl hP hD hS)
theorem z_alen (C : zCx G p s m args meth c own cc nL ret) {g o n : Nat} {f : Nat → Int32} (hlive : (g, o) ∈ zcells) (he : zct G σ g o = .inl (zaC G 0, n, .inl f)) (d : decode cc pc = .ok (.arraylength, 1)) (kk : zWV G p l e R s m args below meth c nL cells slots Q (pc + 1) lv (.int (Int32.ofNat n) :: st) σ) : zWV G p l e R s m args below meth c nL cells slots Q pc lv (.ref (zad G g o) :: st) σ := by
  intro ls H locs hl hP hD hS
  obtain ⟨q, hq⟩ := zin hlive
  exact va_alen C.x C.b C.K hP q 0 ((zwd_at G σ hq).trans (by rw [he])) rfl rfl d (kk ls H locs hl hP hD hS)
theorem z_iast (C : zCx G p s m args meth c own cc nL ret) {g o n : Nat} {i x : Int32} (hlive : (g, o) ∈ zcells) (he : ∀ f w d, zshp G g o f w d = .inl (zaC G 0, n, .inl f)) (hin : vp_in i n) (d : decode cc pc = .ok (.iastore, 1)) (kk : zWV G p l e R s m args below meth c nL cells slots Q (pc + 1) lv st (zst σ g o i.toNatClampNeg x)) : zWV G p l e R s m args below meth c nL cells slots Q pc lv (.int x :: .int i :: .ref (zad G g o) :: st) σ := by
  intro ls H locs hl hP hD hS
  obtain ⟨q, hq⟩ := zin hlive
  have e := zwd_set (G := G) (σ := σ) (σ' := zst σ g o i.toNatClampNeg x) (e := .inl (zaC G 0, n, .inl (upd (σ.1 g o) i.toNatClampNeg x))) hq (by rw [zct_st_self, he]) (fun _ _ h => zct_st h)
  exact va_iast C.x C.b C.K hP hD hS q 0 ((zwd_at G σ hq).trans (congrArg (fun e => some (zad G g o, e)) (he _ _ _))) rfl hin d (fun H1 locs1 hP1 hD1 hS1 => kk ls H1 locs1 hl (e ▸ hP1) (e ▸ hD1) hS1)
theorem z_zast (C : zCx G p s m args meth c own cc nL ret) {g o n : Nat} {i x : Int32} (hlive : (g, o) ∈ zcells) (he : ∀ f w d, zshp G g o f w d = .inl (zaC G 1, n, .inl f)) (hin : vp_in i n) (d : decode cc pc = .ok (.bastore, 1)) (kk : zWV G p l e R s m args below meth c nL cells slots Q (pc + 1) lv st (zst σ g o i.toNatClampNeg (vp_nar .boolean x))) : zWV G p l e R s m args below meth c nL cells slots Q pc lv (.int x :: .int i :: .ref (zad G g o) :: st) σ := by
  intro ls H locs hl hP hD hS
  obtain ⟨q, hq⟩ := zin hlive
  have e := zwd_set (G := G) (σ := σ) (σ' := zst σ g o i.toNatClampNeg (vp_nar .boolean x)) (e := .inl (zaC G 1, n, .inl (upd (σ.1 g o) i.toNatClampNeg (vp_nar .boolean x)))) hq (by rw [zct_st_self, he]) (fun _ _ h => zct_st h)
  exact va_zast C.x C.b C.K hP hD hS q 1 ((zwd_at G σ hq).trans (congrArg (fun e => some (zad G g o, e)) (he _ _ _))) rfl hin d (fun H1 locs1 hP1 hD1 hS1 => kk ls H1 locs1 hl (e ▸ hP1) (e ▸ hD1) hS1)
/-- the static arrays -/
theorem z_gsN (C : zCx G p s m args meth c own cc nL ret) {index : Nat} (i : Nat) (hi : i < 3) (hlink : Cond.fieldLinkNest own index "VillageWaves" (zfn i) "[I" "VillageWaves" ∈ zNW) (d : decode cc pc = .ok (.getstatic index, 3)) (kk : zWV G p l e R s m args below meth c nL cells slots Q (pc + 3) lv (.ref (zsa G i) :: st) σ) : zWV G p l e R s m args below meth c nL cells slots Q pc lv st σ :=
  fun ls H locs hl hP hD hS => va_getsN C.x C.b (C.F.1 i hi).1 hS C.o (va_Nw.use rfl (C.w _ hlink)) (fun _ h => h) d (kk ls H locs hl hP hD hS)
theorem z_gs (C : zCx G p s m args meth c own cc nL ret) {index : Nat} (i : Nat) (hi : i < 3) (hlink : Cond.fieldLink own index "VillageWaves" (zfn i) "[I" ∈ zGW) (d : decode cc pc = .ok (.getstatic index, 3)) (kk : zWV G p l e R s m args below meth c nL cells slots Q (pc + 3) lv (.ref (zsa G i) :: st) σ) : zWV G p l e R s m args below meth c nL cells slots Q pc lv st σ :=
  fun ls H locs hl hP hD hS => va_gets C.x C.b (C.F.1 i hi).1 hS C.o (C.t _ hlink) (fun _ h => h) d (kk ls H locs hl hP hD hS)
theorem z_sald (C : zCx G p s m args meth c own cc nL ret) (j : Nat) (hj : j < 3) {i : Int32} (hin : vp_in i 5) (d : decode cc pc = .ok (.iaload, 1)) (kk : zWV G p l e R s m args below meth c nL cells slots Q (pc + 1) lv (.int ((zfv j).getD i.toNatClampNeg 0) :: st) σ) : zWV G p l e R s m args below meth c nL cells slots Q pc lv (.int i :: .ref (zsa G j) :: st) σ :=
  fun ls H locs hl hP hD hS => va_ti C.x C.b (C.F.1 j hj).2 hS hin rfl d (kk ls H locs hl hP hD hS)
theorem z_salen (C : zCx G p s m args meth c own cc nL ret) (j : Nat) (hj : j < 3) (d : decode cc pc = .ok (.arraylength, 1)) (kk : zWV G p l e R s m args below meth c nL cells slots Q (pc + 1) lv (.int 5 :: st) σ) : zWV G p l e R s m args below meth c nL cells slots Q pc lv (.ref (zsa G j) :: st) σ :=
  fun ls H locs hl hP hD hS => va_tlen C.x C.b (C.F.1 j hj).2 hS rfl d (kk ls H locs hl hP hD hS)
/-- the texts -/
theorem z_ldcS (C : zCx G p s m args meth c own cc nL ret) {index : Nat} (i : Nat) (hi : i < 21) (ho : zs1 i = own) (hx : zs2 i = index) (d : decode cc pc = .ok (.ldc index, 2)) (kk : zWV G p l e R s m args below meth c nL cells slots Q (pc + 2) lv (.ref (zsa G (10 + i)) :: st) σ) : zWV G p l e R s m args below meth c nL cells slots Q pc lv st σ := by
  subst ho; subst hx
  exact fun ls H locs hl hP hD hS => va_ldcS C.x C.b C.o (C.F.2.2.1 i hi) d (kk ls H locs hl hP hD hS)
/-- how a method may begin: its arguments, the world at σ, sz cells -/
def zPre (G : zLA) (as : List Value) (σ : zSt) (sz : Nat) : Array Value → State → Prop := va_Pc as (fun U => U.heap.size = sz ∧ va_P (zD G) zcl (zwd G σ) U.heap ∧ va_K (zD G) zcl (zty G) U ∧ va_D (fun _ => True) (zwd G σ) ∧ (∀ w ∈ zNW, va_Nw w U) ∧ zSF G (zA G sz) U U.heap)
theorem zNW_on {w : Cond} (hw : w ∈ zNW) : w.onTables = true := by
  have h2 := (List.mem_filter.mp hw).2
  cases w <;> first | rfl | cases h2
theorem zPre.blind {G : zLA} {as : List Value} {σ : zSt} {sz : Nat} : FrameBlind (zPre G as σ sz) := by
  intro a U g mk h
  obtain ⟨h0, h1, h2, h3, h4, h5, h6⟩ := h
  exact ⟨h0, h1, h2, va_K.moved (u := U) (U := U.calling g mk a) (Vm.Alike.refl U.vm) h3, h4, fun w hw => va_Nw.same (u := U) (U := U.calling g mk a) (zNW_on hw) rfl (h5 w hw), h6.calling⟩
/-- how it ends: with this answer, the world at σ', nothing else of old changed -/
def zR (G : zLA) (sz : Nat) (ov : Option Value) (σ' : zSt) : Array Value → State → Outcome → State → Prop := fun _ st oc t => (oc = .returned ov ∧ va_P (zD G) zcl (zwd G σ') t.heap) ∧ va_F (zA G sz) st t
def zM (l : Launch) (G : zLA) (y : MethodName) (ws : List Cond) (rm : Room) (as : List Value) (σ : zSt) (ov : Option Value) (σ' : zSt) : Prop :=
  ∀ sz : Nat, Met l y ws rm (zPre G as σ sz) (zR G sz ov σ') rm.cells rm.slots (zA G sz)
abbrev zws (y : MethodName) (b : ByteArray) (ml : Nat) (rt : Option FieldType) : List Cond := Cond.code y b ml rt :: zGW
abbrev zQ (G : zLA) (below : List Frame) (args : Array Value) (s : State) (rm : Room) (ov : Option Value) (σ' : zSt) : State → Prop := MQ below (zR G s.heap.size ov σ') args s rm.cells rm.slots (zA G s.heap.size)
theorem z_ofM {y : MethodName} {b : ByteArray} {ml : Nat} {rt : Option FieldType} {rm : Room} {as : List Value} {σ' : zSt} {ov : Option Value} (hy : plainName y.cls = true) (hcl : y.cls = own) (hlv : lv_args 0 as = lv) (hsz : (lg_sl as).length ≤ ml)
    (body : ∀ (p : Program) (e : Env) (s : State) (m : MethodId) (args : Array Value) (below : List Frame) (meth : Method) (c : Code), zCx G p s m args meth c own b ml rt → zWV G p l e rm s m args below meth c ml 0 0 (zQ G below args s rm ov σ') 0 lv [] σ) : zM l G y (zws y b ml rt) rm as σ ov σ' := by
  intro sz
  refine Met.ofW (cc := b) (maxL := ml) (ret := rt) hy rfl ?_
  intro p e s m args below meth c s₁ B hml hv
  obtain ⟨rfl, hsz0, hP, hK, hD0, hN, hF⟩ := hv
  subst hsz0
  have hts := atoms_spec (ws := zws y b ml rt) B.pre
  have hown : s.vm.findClass own = some m.cls := by rw [← hcl]; exact findClass_of_methodNamed B.named
  have hl := lv_entry as (n := ml) hsz
  rw [lg_entry_eq]
  subst hlv
  exact body p e s m _ below meth c ⟨B.exec, B.bytes, hml, B.returns, B.notSynchronized, hown, fun w hw => hts w (List.mem_cons_of_mem _ hw), hN, hK, hF⟩ _ _ [] hl hP (zD_A hD0) va_S.rf
theorem zA_forall {G : zLA} {s : State} {H : Heap} {locs : List Loc} (h : va_S (zA G s.heap.size) s.heap H locs) : ∀ q, zA G H.size q → zA G s.heap.size q := zA.mono h.1
theorem zgood {y : MethodName} {b : ByteArray} {ml : Nat} {rt : Option FieldType} (h : Cond.code y b ml rt ∈ zGW) : GoodIn zGW (zws y b ml rt) := by
  intro w hw
  have hw' : w ∈ zGW := (List.mem_cons.mp hw).elim (fun e => e ▸ h) id
  exact ⟨hw', good_of_word (List.mem_filter.mp hw').2⟩
theorem zgoodA {a : List Cond} {y : MethodName} {b : ByteArray} {ml : Nat} {rt : Option FieldType} (ha : ∀ w ∈ a, w ∈ zGW) (h : Cond.code y b ml rt ∈ zGW) : GoodIn zGW (a ++ zws y b ml rt) := by
  intro w hw
  rcases List.mem_append.mp hw with h1 | h1
  · exact ⟨ha w h1, good_of_word (List.mem_filter.mp (ha w h1)).2⟩
  · exact zgood h w h1
/-- what the tables say of a callee: by invokevirtual, invokestatic, of a nest mate -/
def zLV (own : String) (index : Nat) (Cn : String) (y : MethodName) (b : ByteArray) (ml : Nat) (rt : Option FieldType) (n : Nat) : Prop :=
  Cond.methodLink own index y ∈ zGW ∧ Cond.instanceMethod y ∈ zGW ∧ Cond.selects Cn y y ∈ zGW ∧ Cond.initialized Cn ∈ zGW ∧ Cond.code y b ml rt ∈ zGW ∧ y.cls = Cn ∧ (y.cls ≠ "java/lang/invoke/MethodHandle" ∧ y.cls ≠ "java/lang/invoke/VarHandle" ∧ (parseMethodDescriptor y.desc).map (fun d => d.parameters.length) = some n)
def zLS (own : String) (index : Nat) (y : MethodName) (b : ByteArray) (ml : Nat) (rt : Option FieldType) (n : Nat) : Prop :=
  Cond.methodLink own index y ∈ zGW ∧ Cond.static y ∈ zGW ∧ Cond.initialized y.cls ∈ zGW ∧ Cond.code y b ml rt ∈ zGW ∧ (y.cls ≠ "java/lang/invoke/MethodHandle" ∧ y.cls ≠ "java/lang/invoke/VarHandle" ∧ (parseMethodDescriptor y.desc).map (fun d => d.parameters.length) = some n)
def zLSN (own : String) (index : Nat) (y : MethodName) (host : String) (b : ByteArray) (ml : Nat) (rt : Option FieldType) (n : Nat) : Prop :=
  Cond.methodLinkNest own index y host ∈ zNW ∧ Cond.static y ∈ zGW ∧ Cond.initialized y.cls ∈ zGW ∧ Cond.code y b ml rt ∈ zGW ∧ (y.cls ≠ "java/lang/invoke/MethodHandle" ∧ y.cls ≠ "java/lang/invoke/VarHandle" ∧ (parseMethodDescriptor y.desc).map (fun d => d.parameters.length) = some n)
/-- the world and its facts at a callee's start -/
theorem zPre.of {G : zLA} {s : State} {σ : zSt} {H : Heap} {locs : List Loc} (as : List Value) (hK : va_K (zD G) zcl (zty G) s) (hN : ∀ w ∈ zNW, va_Nw w s) (hF : zSF G (zA G s.heap.size) s s.heap) (hP : va_P (zD G) zcl (zwd G σ) H) (hD : va_D (zA G s.heap.size) (zwd G σ)) (hS : va_S (zA G s.heap.size) s.heap H locs) : ∀ U : State, U.heap = H → s.WarmedH U.vm → zPre G as σ H.size as.toArray U :=
  fun U hU hW => ⟨rfl, by rw [hU], by rw [hU]; exact hP, va_K.moved hW.alike hK, hD.weaken (fun _ _ _ _ => trivial), zNW_warm hW hN, by rw [hU]; exact hF.go hW hS.2.1 (zA_forall hS)⟩
/-- behind a call -/
theorem z_back {H : Heap} {locs : List Loc} {ls : Array Slot} {rest st0 : List Value} {rm : Room} {ov : Option Value} {σ' : zSt} {a : Array Value} (hr : va_Run p l e R s m args below meth c H locs cells slots rm.cells rm.slots (F0 m pc ls st0) rest (zR G H.size ov σ' a) (zA G H.size)) (hS : va_S (zA G s.heap.size) s.heap H locs) (hl : lv_has ls nL lv) (hD : va_D (zA G s.heap.size) (zwd G σ))
    (kk : zWV G p l e R s m args below meth c nL (cells + rm.cells) (slots + rm.slots) Q (pc + 3) lv (ov.toList ++ rest) σ') : W p l e R s m args below meth c H locs cells slots Q (F0 m pc ls st0) := by
  intro T hT X
  obtain ⟨v, st₀, t, T', L, h0, X', hL, e1, e2, ⟨⟨hv, hb⟩, hz, hk⟩, stp⟩ := hr T hT X
  cases hv
  rw [h0] at hz hk
  have hA := zA_forall hS
  obtain ⟨t2, a1, b1⟩ := kk ls T'.heap (locs ++ L) hl (by rw [e1]; exact hb) (zD_any hD) ⟨Nat.le_trans hS.1 (by rw [e1]; exact hz), fun q h1 h2 => by rw [e1, hk q (Nat.lt_of_lt_of_le h1 hS.1) (fun z => h2 (hA q z))]; exact hS.2.1 q h1 h2, fun q hq => by
      rcases List.mem_append.mp hq with h | h
      · exact hS.2.2 q h
      · exact hA _ (hL q h)⟩ T' rfl X'
  exact ⟨t2, stp t2 a1, b1⟩
theorem z_callV (C : zCx G p s m args meth c own cc nL ret) {index n ci g o : Nat} {Cn : String} {T : u_T} {N : Nat} {y : MethodName} {b : ByteArray} {ml : Nat} {rt : Option FieldType} {rm : Room} {as rest : List Value} {σ' : zSt} {ov : Option Value} {fs : List Value} (hL : zLV own index Cn y b ml rt n) (hc : zcl[ci]? = some (Cn, T, N)) (M : zM l G y (zws y b ml rt) rm (.ref (zad G g o) :: as) σ ov σ') (hlive : (g, o) ∈ zcells) (he : zct G σ g o = .inr (ci, fs)) (hn : as.length = n) (hst : st = as.reverse ++ .ref (zad G g o) :: rest) (hrest : (rest.map fun v => v.category).sum ≤ 8) (hR : rm.frames + 1 ≤ R.frames ∧ 8 + (ml + 11) + rm.locals ≤ R.locals) (hcs : cells + rm.cells ≤ R.cells ∧ slots + rm.slots ≤ R.slots) (d : decode cc pc = .ok (.invokevirtual index, 3)) (kk : zWV G p l e R s m args below meth c nL (cells + rm.cells) (slots + rm.slots) Q (pc + 3) lv (ov.toList ++ rest) σ') : zWV G p l e R s m args below meth c nL cells slots Q pc lv st σ := by
  subst hst
  intro ls H locs hl hP hD hS
  obtain ⟨q, hq⟩ := zin hlive
  obtain ⟨h1, h2, h3, h4, h5, h6, h7⟩ := hL
  exact z_back (va_runV (As := as) (rest := rest) ⟨C.x, C.b, C.n, C.o, C.t⟩ (M H.size) (cwV n C.t (by unfold wsV; exact zgoodA (fun w hw => by simp only [List.mem_cons, List.not_mem_nil, or_false] at hw; rcases hw with rfl | rfl | rfl | rfl <;> assumption) h5) rfl rfl rfl ⟨h6, h7⟩ hR) ⟨zPre.blind, va_recv C.K hP hc ((zwd_at G σ hq).trans (by rw [he])), zPre.of _ C.K C.w C.F hP hD hS⟩ rfl hn hl.1 rfl (lv_room hrest) d hcs) hS hl hD kk
theorem z_callS (C : zCx G p s m args meth c own cc nL ret) {index n : Nat} {y : MethodName} {b : ByteArray} {ml : Nat} {rt : Option FieldType} {rm : Room} {as rest : List Value} {σ' : zSt} {ov : Option Value} (hL : zLS own index y b ml rt n) (M : zM l G y (zws y b ml rt) rm as σ ov σ') (hn : as.length = n) (hst : st = as.reverse ++ rest) (hrest : (rest.map fun v => v.category).sum ≤ 8) (hR : rm.frames + 1 ≤ R.frames ∧ 8 + (ml + 11) + rm.locals ≤ R.locals) (hcs : cells + rm.cells ≤ R.cells ∧ slots + rm.slots ≤ R.slots) (d : decode cc pc = .ok (.invokestatic index, 3)) (kk : zWV G p l e R s m args below meth c nL (cells + rm.cells) (slots + rm.slots) Q (pc + 3) lv (ov.toList ++ rest) σ') : zWV G p l e R s m args below meth c nL cells slots Q pc lv st σ := by
  subst hst
  intro ls H locs hl hP hD hS
  obtain ⟨h1, h2, h3, h4, h7⟩ := hL
  exact z_back (va_runS (As := as) (rest := rest) ⟨C.x, C.b, C.n, C.o, C.t⟩ (M H.size) (va_cwS n C.t (by unfold va_wsS; exact zgoodA (fun w hw => by simp only [List.mem_cons, List.not_mem_nil, or_false] at hw; rcases hw with rfl | rfl | rfl <;> assumption) h4) rfl rfl rfl h7 hR) ⟨zPre.blind, zPre.of _ C.K C.w C.F hP hD hS⟩ rfl hn hl.1 rfl (lv_room hrest) d hcs) hS hl hD kk
theorem z_callSN (C : zCx G p s m args meth c own cc nL ret) {index n : Nat} {y : MethodName} {host : String} {b : ByteArray} {ml : Nat} {rt : Option FieldType} {rm : Room} {as rest : List Value} {σ' : zSt} {ov : Option Value} (hL : zLSN own index y host b ml rt n) (M : zM l G y (zws y b ml rt) rm as σ ov σ') (hn : as.length = n) (hst : st = as.reverse ++ rest) (hrest : (rest.map fun v => v.category).sum ≤ 8) (hR : rm.frames + 1 ≤ R.frames ∧ 8 + (ml + 11) + rm.locals ≤ R.locals) (hcs : cells + rm.cells ≤ R.cells ∧ slots + rm.slots ≤ R.slots) (d : decode cc pc = .ok (.invokestatic index, 3)) (kk : zWV G p l e R s m args below meth c nL (cells + rm.cells) (slots + rm.slots) Q (pc + 3) lv (ov.toList ++ rest) σ') : zWV G p l e R s m args below meth c nL cells slots Q pc lv st σ := by
  subst hst
  intro ls H locs hl hP hD hS
  obtain ⟨h1, h2, h3, h4, h7⟩ := hL
  exact z_back (va_runSN (As := as) (rest := rest) ⟨C.x, C.b, C.n, C.o, C.t⟩ (M H.size) ⟨va_cnB n C.t (zgood h4) rfl rfl rfl (C.w _ h1) (C.t _ h3) h7 hR, C.t _ h2, trivial⟩ ⟨zPre.blind, zPre.of _ C.K C.w C.F hP hD hS⟩ rfl hn hl.1 rfl (lv_room hrest) d hcs) hS hl hD kk
theorem z_iret (C : zCx G p s m args meth c own cc nL ret) {rm : Room} {v : Int32} (hr : ret = some .int) (hc : cells ≤ rm.cells) (hs : slots ≤ rm.slots) (d : decode cc pc = .ok (.ireturn, 1)) : zWV G p l e R s m args below meth c nL cells slots (zQ G below args s rm (some (.int v)) σ) pc lv [.int v] σ := by
  intro ls H locs hl hP hD hS
  refine W.widen hc hs ?_
  exact W.iret C.x C.b (C.r.trans hr) (fun t ht hW => ⟨⟨rfl, by rw [ht]; exact hP⟩, hS.F ht⟩) hS.2.2 d C.k
theorem z_zret (C : zCx G p s m args meth c own cc nL ret) {rm : Room} {v : Int32} {ty : FieldType} (hr : ret = some ty) (hn : narrow ty (.int v) = .int v) (hc : cells ≤ rm.cells) (hs : slots ≤ rm.slots) (d : decode cc pc = .ok (.ireturn, 1)) : zWV G p l e R s m args below meth c nL cells slots (zQ G below args s rm (some (.int v)) σ) pc lv [.int v] σ := by
  intro ls H locs hl hP hD hS
  refine W.widen hc hs ?_
  exact W.zret C.x C.b (C.r.trans hr) hn (fun t ht hW => ⟨⟨rfl, by rw [ht]; exact hP⟩, hS.F ht⟩) hS.2.2 d C.k
theorem z_vret (C : zCx G p s m args meth c own cc nL ret) {rm : Room} (hr : ret = none) (hc : cells ≤ rm.cells) (hs : slots ≤ rm.slots) (d : decode cc pc = .ok (.return_, 1)) : zWV G p l e R s m args below meth c nL cells slots (zQ G below args s rm none σ) pc lv [] σ := by
  intro ls H locs hl hP hD hS
  refine W.widen hc hs ?_
  exact W.vret C.x C.b (C.r.trans hr) (fun t ht hW => ⟨⟨rfl, by rw [ht]; exact hP⟩, hS.F ht⟩) hS.2.2 d C.k
theorem z_aret (C : zCx G p s m args meth c own cc nL ret) {rm : Room} {v : Nat} {rt : FieldType} (hr : ret = some rt) (hrt : (∃ n, rt = .object n) ∨ ∃ t, rt = .array t) (hc : cells ≤ rm.cells) (hs : slots ≤ rm.slots) (d : decode cc pc = .ok (.areturn, 1)) : zWV G p l e R s m args below meth c nL cells slots (zQ G below args s rm (some (.ref v)) σ) pc lv [.ref v] σ := by
  intro ls H locs hl hP hD hS
  refine W.widen hc hs ?_
  exact W.aret C.x C.b (C.r.trans hr) hrt (Or.inr ⟨v, rfl⟩) (fun t ht hW => ⟨⟨rfl, by rw [ht]; exact hP⟩, hS.F ht⟩) hS.2.2 d C.k
end ZR
theorem bd_s {α β : Type} {x : Option α} {f : α → Option β} {b : β} (h : x.bind f = some b) : ∃ a, x = some a ∧ f a = some b := by
  cases x with
  | none => cases h
  | some a => exact ⟨a, rfl, h⟩
/-- bind over a pair, curried -/
def bd2 {α β γ : Type} (x : Option (α × β)) (f : α → β → Option γ) : Option γ := x.bind fun q => f q.1 q.2
theorem bd2_s {α β γ : Type} {x : Option (α × β)} {f : α → β → Option γ} {b : γ} (h : bd2 x f = some b) : ∃ a c, x = some (a, c) ∧ f a c = some b := by
  cases x with
  | none => cases h
  | some a => exact ⟨a.1, a.2, rfl, h⟩
theorem iff_t {α : Type} {c : Prop} [Decidable c] {a b r : α} (h : (if c then a else b) = r) (hc : c) : a = r := by rwa [if_pos hc] at h
theorem iff_f {α : Type} {c : Prop} [Decidable c] {a b r : α} (h : (if c then a else b) = r) (hc : ¬ c) : b = r := by rwa [if_neg hc] at h
/-- a place within a row -/
def inb (i : Int32) (n : Nat) : Bool := decide (¬ i < 0) && decide (i.toNatClampNeg < n)
theorem inb_in {i : Int32} {n : Nat} (h : inb i n = true) : vp_in i n := by
  simp only [inb, Bool.and_eq_true, decide_eq_true_eq] at h
  exact fun z => z.elim h.1 (fun q => absurd h.2 (Nat.not_lt.mpr q))
theorem iff_n {α : Type} {c : Prop} [Decidable c] {a r : α} (h : (if c then some a else none) = some r) : c ∧ a = r := by
  by_cases hc : c
  · rw [if_pos hc] at h; exact ⟨hc, Option.some.inj h⟩
  · rw [if_neg hc] at h; cases h
theorem iff_g {α : Type} {c : Prop} [Decidable c] {a : Option α} {r : α} (h : (if c then a else none) = some r) : c ∧ a = some r := by
  by_cases hc : c
  · rw [if_pos hc] at h; exact ⟨hc, h⟩
  · rw [if_neg hc] at h; cases h
