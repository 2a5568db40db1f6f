/-! constructors: the world is a list of cells; what may change is A -/
section NR
variable {G : zLA} {p : Program} {l : Launch} {e : Env} {R : Room} {s : State} {m : MethodId} {args : Array Value} {below : List Frame} {meth : Method} {c : Code} {cells slots : Nat} {Q : State → Prop}
variable {own : String} {cc : ByteArray} {nL : Nat} {ret : Option FieldType} {pc : Nat} {lv : List (Nat × Value)} {st : List Value} {ws : va_W} {A : Nat → Prop}
def nCx (G : zLA) (p : Program) (s : State) (m : MethodId) (args : Array Value) (meth : Method) (c : Code) (own : String) (cc : ByteArray) (nL : Nat) (ret : Option FieldType) (A : Nat → Prop) : Prop :=
  p.tables.exec = Jvm.exec ∧ c.code = cc ∧ c.maxLocals = nL ∧ meth.sig.returnType = ret ∧ meth.locks = false ∧ s.vm.findClass own = some m.cls ∧ (∀ w ∈ zGW, w.before args s = true) ∧ (∀ w ∈ zNW, va_Nw w s) ∧ va_K (zD G) zcl (zty G) s ∧ zSF G A s s.heap ∧ (∀ q, s.heap.size ≤ q → A q)
theorem nCx.x (C : nCx G p s m args meth c own cc nL ret A) : p.tables.exec = Jvm.exec := C.1
theorem nCx.b (C : nCx G p s m args meth c own cc nL ret A) : c.code = cc := C.2.1
theorem nCx.n (C : nCx G p s m args meth c own cc nL ret A) : c.maxLocals = nL := C.2.2.1
theorem nCx.r (C : nCx G p s m args meth c own cc nL ret A) : meth.sig.returnType = ret := C.2.2.2.1
theorem nCx.k (C : nCx G p s m args meth c own cc nL ret A) : meth.locks = false := C.2.2.2.2.1
theorem nCx.o (C : nCx G p s m args meth c own cc nL ret A) : s.vm.findClass own = some m.cls := C.2.2.2.2.2.1
theorem nCx.t (C : nCx G p s m args meth c own cc nL ret A) : ∀ w ∈ zGW, w.before args s = true := C.2.2.2.2.2.2.1
theorem nCx.w (C : nCx G p s m args meth c own cc nL ret A) : ∀ w ∈ zNW, va_Nw w s := C.2.2.2.2.2.2.2.1
theorem nCx.K (C : nCx G p s m args meth c own cc nL ret A) : va_K (zD G) zcl (zty G) s := C.2.2.2.2.2.2.2.2.1
theorem nCx.F (C : nCx G p s m args meth c own cc nL ret A) : zSF G A s s.heap := C.2.2.2.2.2.2.2.2.2.1
theorem nCx.h (C : nCx G p s m args meth c own cc nL ret A) : ∀ q, s.heap.size ≤ q → A q := C.2.2.2.2.2.2.2.2.2.2
/-- at pc, with these locals, this stack, these cells: Q is reached -/
def nWV (G : zLA) (p : Program) (l : Launch) (e : Env) (R : Room) (s : State) (m : MethodId) (args : Array Value) (below : List Frame) (meth : Method) (c : Code) (nL cells slots : Nat) (Q : State → Prop) (A : Nat → Prop) (pc : Nat) (lv : List (Nat × Value)) (st : List Value) (ws : va_W) : Prop :=
  ∀ (ls : Array Slot) (H : Heap) (locs : List Loc), lv_has ls nL lv → va_P (zD G) zcl ws H → va_D A ws → va_S A s.heap H locs → W p l e R s m args below meth c H locs cells slots Q (F0 m pc ls st)
theorem n_iload_n {k : Fin 4} {i : Nat} {x : Int32} (C : nCx G p s m args meth c own cc nL ret A) (d : decode cc pc = .ok (.iload_n k, 1)) (j : Nat) (h : lv[j]? = some (i, .int x)) (hi : (k : Nat) = i) (kk : nWV G p l e R s m args below meth c nL cells slots Q A (pc + 1) lv (.int x :: st) ws) : nWV G p l e R s m args below meth c nL cells slots Q A pc lv st ws :=
  fun ls H locs hl hP hD hS => lv_iload_n C.x C.b d hi (lv_at hl j h) (kk ls H locs hl hP hD hS)
theorem n_aload_n {k : Fin 4} {i : Nat} {x : Nat} (C : nCx G p s m args meth c own cc nL ret A) (d : decode cc pc = .ok (.aload_n k, 1)) (j : Nat) (h : lv[j]? = some (i, .ref x)) (hi : (k : Nat) = i) (kk : nWV G p l e R s m args below meth c nL cells slots Q A (pc + 1) lv (.ref x :: st) ws) : nWV G p l e R s m args below meth c nL cells slots Q A pc lv st ws :=
  fun ls H locs hl hP hD hS => lv_aload_n C.x C.b d hi (lv_at hl j h) (kk ls H locs hl hP hD hS)
theorem n_iconst {n : Int} {v : Int32} (C : nCx G p s m args meth c own cc nL ret A) (d : decode cc pc = .ok (.iconst n, 1)) (hv : Int32.ofInt n = v) (k : nWV G p l e R s m args below meth c nL cells slots Q A (pc + 1) lv (.int v :: st) ws) : nWV G p l e R s m args below meth c nL cells slots Q A pc lv st ws :=
  fun ls H locs hl hP hD hS => lv_iconst C.x C.b d hv (k ls H locs hl hP hD hS)
theorem n_bipush {n : Int} {v : Int32} (C : nCx G p s m args meth c own cc nL ret A) (d : decode cc pc = .ok (.bipush n, 2)) (hv : (Int8.ofInt n).toInt32 = v) (k : nWV G p l e R s m args below meth c nL cells slots Q A (pc + 2) lv (.int v :: st) ws) : nWV G p l e R s m args below meth c nL cells slots Q A pc lv st ws :=
  fun ls H locs hl hP hD hS => lv_bipush C.x C.b d hv (k ls H locs hl hP hD hS)
theorem n_sipush {n : Int} {v : Int32} (C : nCx G p s m args meth c own cc nL ret A) (d : decode cc pc = .ok (.sipush n, 3)) (hv : (Int16.ofInt n).toInt32 = v) (k : nWV G p l e R s m args below meth c nL cells slots Q A (pc + 3) lv (.int v :: st) ws) : nWV G p l e R s m args below meth c nL cells slots Q A pc lv st ws :=
  fun ls H locs hl hP hD hS => lv_sipush C.x C.b d hv (k ls H locs hl hP hD hS)
theorem n_dup {va : Value} (C : nCx G p s m args meth c own cc nL ret A) (d : decode cc pc = .ok (.dup, 1)) (hva : va.category = 1) (k : nWV G p l e R s m args below meth c nL cells slots Q A (pc + 1) lv (va :: va :: st) ws) : nWV G p l e R s m args below meth c nL cells slots Q A pc lv (va :: st) ws :=
  fun ls H locs hl hP hD hS => lv_dup C.x C.b d hva (k ls H locs hl hP hD hS)
theorem n_istore {i : Nat} {x : Int32} (C : nCx G p s m args meth c own cc nL ret A) (d : decode cc pc = .ok (.istore i, 2)) (hn : i < nL) (kk : nWV G p l e R s m args below meth c nL cells slots Q A (pc + 2) ((i, .int x) :: zdl i lv) st ws) : nWV G p l e R s m args below meth c nL cells slots Q A pc lv (.int x :: st) ws :=
  fun ls H locs hl hP hD hS => lv_istore C.x C.b d hl hn rfl (fun ls hl => kk ls H locs hl hP hD hS)
theorem n_astore_n {k : Fin 4} {i : Nat} {x : Nat} (C : nCx G p s m args meth c own cc nL ret A) (d : decode cc pc = .ok (.astore_n k, 1)) (hi : (k : Nat) = i) (hn : i < nL) (kk : nWV G p l e R s m args below meth c nL cells slots Q A (pc + 1) ((i, .ref x) :: zdl i lv) st ws) : nWV G p l e R s m args below meth c nL cells slots Q A pc lv (.ref x :: st) ws :=
  fun ls H locs hl hP hD hS => lv_astore_n C.x C.b d hi hl hn rfl (fun ls hl => kk ls H locs hl hP hD hS)
theorem n_astore {i : Nat} {x : Nat} (C : nCx G p s m args meth c own cc nL ret A) (d : decode cc pc = .ok (.astore i, 2)) (hn : i < nL) (kk : nWV G p l e R s m args below meth c nL cells slots Q A (pc + 2) ((i, .ref x) :: zdl i lv) st ws) : nWV G p l e R s m args below meth c nL cells slots Q A pc lv (.ref x :: st) ws :=
  fun ls H locs hl hP hD hS => lv_astore C.x C.b d hl hn rfl (fun ls hl => kk ls H locs hl hP hD hS)
theorem n_mmax (C : nCx G p s m args meth c own cc nL ret A) {index : Nat} {y0 : MethodName} (hlink : Cond.methodLink own index y0 ∈ zGW) (hy : y0 = Lib.Math.max.name) (hrest : (st.map fun v => v.category).sum ≤ 8) (hframes : 1 ≤ R.frames) (hlocals : 21 ≤ R.locals) (hc : cells ≤ R.cells) (hs : slots ≤ R.slots) {x y : Int32} (d : decode cc pc = .ok (.invokestatic index, 3)) (kk : nWV G p l e R s m args below meth c nL cells slots Q A (pc + 3) lv (.int (if x < y then y else x) :: st) ws) : nWV G p l e R s m args below meth c nL cells slots Q A pc lv (.int y :: .int x :: st) ws := by
  subst hy
  exact fun ls H locs hl hP hD hS => va_mmax C.x C.b (C.n.trans hl.1.symm) C.o (C.t _ hlink) (C.t _ zmmax_s) (C.t _ zm_i) (C.t _ zmmax_c) hframes (by omega) hc hs d (kk ls H locs hl hP hD hS)
/-- Object() -/
theorem n_obj (C : nCx G p s m args meth c own cc nL ret A) {idx a : Nat} (hlink : Cond.methodLink own idx objectInit ∈ zGW) (hinst : Cond.instanceMethod objectInit ∈ zGW) (hcode : Cond.code objectInit ⟨#[0xb1]⟩ 1 none ∈ zGW) (hframes : 1 ≤ R.frames) (hlocals : 12 ≤ R.locals) (d : decode cc pc = .ok (.invokespecial idx, 3)) (kk : nWV G p l e R s m args below meth c nL cells slots Q A (pc + 3) lv [] ws) : nWV G p l e R s m args below meth c nL cells slots Q A pc lv [.ref a] ws :=
  fun ls H locs hl hP hD hS => W.objInit C.x C.b C.o (C.t _ hlink) (C.t _ hinst) (C.t _ hcode) rfl (by rw [C.n]; exact hl.1) rfl d hframes hlocals (W.eq (g2 := F0 m (pc + 3) ls []) rfl (kk ls H locs hl hP hD hS))
theorem n_new (C : nCx G p s m args meth c own cc nL ret A) {index ci N : Nat} {Cn : String} {T : u_T} {ty : Nat → FieldType} {fs : List Value} (hin : ∀ w ∈ u_ws Cn T N, w ∈ zGW) (hty : ∀ k, k < N → parseFieldDescriptor (T k).2.2.1 = some (ty k)) (hc : zcl[ci]? = some (Cn, T, N)) (hcl : Cond.classLink own index Cn ∈ zGW) (hinst : Cond.instantiable Cn N ∈ zGW) (hini : Cond.initialized Cn ∈ zGW) (hfs : ∀ j, j < N → defaultValue (ty j) = vp_V fs j) (hcells : cells + 1 ≤ R.cells) (hslots : slots + N ≤ R.slots) (d : decode cc pc = .ok (.new index, 3))
    (kk : ∀ q : Nat, nWV G p l e R s m args below meth c nL (cells + 1) (slots + N) Q A (pc + 3) lv (.ref q :: st) (ws ++ [(q, .inr (ci, fs))])) : nWV G p l e R s m args below meth c nL cells slots Q A pc lv st ws :=
  fun ls H locs hl hP hD hS => va_new (D := zD G) C.x C.b C.t hin ty hty C.o (C.t _ hcl) (C.t _ hinst) (C.t _ hini) C.K hP hD hS C.h hc hfs hcells hslots d (fun q H1 hP hD hS => kk q ls H1 locs hl hP hD hS)
theorem n_newa (C : nCx G p s m args meth c own cc nL ret A) {at0 : ArrayType} {ty : FieldType} {n : Int32} {N k0 : Nat} {cB : ClassId} {a0 : vp_A} (hw : Cond.arrayClass (newarray.typeOf at0) ∈ zGW) (hty : newarray.typeOf at0 = ty) (hra : ∀ (U : State) (cA : ClassId), va_RA U cA ty → U.vm.findClass ("[" ++ ty.toString) = some cA) (hk0 : (zty G)[k0]? = some (cB, ty)) (ha : ∀ cA : ClassId, vp_cell cA a0 = arrV cA N (fun _ => defaultValue ty)) (hn : ¬ n < 0) (hN : n.toNatClampNeg = N) (hbytes : N * componentBytes ty ≤ 536870912) (hcells : cells + 1 ≤ R.cells) (hslots : slots + N ≤ R.slots) (d : decode cc pc = .ok (.newarray at0, 2))
    (kk : ∀ q : Nat, nWV G p l e R s m args below meth c nL (cells + 1) (slots + N) Q A (pc + 2) lv (.ref q :: st) (ws ++ [(q, .inl (cB, a0))])) : nWV G p l e R s m args below meth c nL cells slots Q A pc lv (.int n :: st) ws := by
  intro ls H locs hl hP hD hS
  refine va_newa (D := zD G) C.x C.b (C.t _ hw) hty C.K hP hD hS C.h ha hn hN hbytes hcells hslots d (fun q cA H1 hK hP hD hS => ?_)
  have h1 := hra s cA (hK.2 (zty G).length (cA, ty) (by simp)).2
  have h2 := hra s cB (C.K.2 k0 (cB, ty) hk0).2
  have h3 : cA = cB := Option.some.inj (h1.symm.trans h2)
  subst h3
  exact kk q ls H1 locs hl hP hD hS
theorem n_putF (C : nCx G p s m args meth c own cc nL ret A) (hname : meth.name = "<init>") {index ci N a : Nat} {ref Cn : String} {T : u_T} {ty0 : Nat → FieldType} {fs : List Value} (hin : ∀ w ∈ u_ws Cn T N, w ∈ zGW) (hty : ∀ k, k < N → parseFieldDescriptor (T k).2.2.1 = some (ty0 k)) (hnm : ∀ a, a < N → ∀ b, b < N → a ≠ b → (T a).2.1 ≠ (T b).2.1) (hc : zcl[ci]? = some (Cn, T, N)) (k : Nat) (hk : k < N) (hlink : Cond.fieldLink own index ref (T k).2.1 (T k).2.2.1 ∈ zGW) (hsame : (T k).1 = ref) (hfin : (T k).2.2.2 = true) (hdecl : (T k).1 = own) {ty : FieldType} {v : Value} (hd : parseFieldDescriptor (T k).2.2.1 = some ty) (hn : narrow ty v = v) (hfit : fits ty v = true) (hl0 : k < fs.length) (d : decode cc pc = .ok (.putfield index, 3))
    (kk : nWV G p l e R s m args below meth c nL cells slots Q A (pc + 3) lv st ((a, .inr (ci, fs.set k v)) :: ws)) : nWV G p l e R s m args below meth c nL cells slots Q A pc lv (v :: .ref a :: st) ((a, .inr (ci, fs)) :: ws) :=
  fun ls H locs hl hP hD hS => va_putF (D := zD G) C.x C.b C.t hin ty0 hty hnm C.o C.K hP hD hS 0 rfl hc k hk (C.t _ hlink) (fun x hx => by rw [← hsame]; exact hx) hfin hname hdecl hd hn hfit hl0 d (fun H1 locs1 hP1 hD1 hS1 => kk ls H1 locs1 hl hP1 hD1 hS1)
theorem n_put (C : nCx G p s m args meth c own cc nL ret A) {index ci N a : Nat} {ref Cn : String} {T : u_T} {ty0 : Nat → FieldType} {fs : List Value} (hin : ∀ w ∈ u_ws Cn T N, w ∈ zGW) (hty : ∀ k, k < N → parseFieldDescriptor (T k).2.2.1 = some (ty0 k)) (hnm : ∀ a, a < N → ∀ b, b < N → a ≠ b → (T a).2.1 ≠ (T b).2.1) (hc : zcl[ci]? = some (Cn, T, N)) (k : Nat) (hk : k < N) (hlink : Cond.fieldLink own index ref (T k).2.1 (T k).2.2.1 ∈ zGW) (hsame : (T k).1 = ref) (hfin : (T k).2.2.2 = false) {v : Int32} (hd : parseFieldDescriptor (T k).2.2.1 = some .int) (hl0 : k < fs.length) (d : decode cc pc = .ok (.putfield index, 3))
    (kk : nWV G p l e R s m args below meth c nL cells slots Q A (pc + 3) lv st ((a, .inr (ci, fs.set k (.int v))) :: ws)) : nWV G p l e R s m args below meth c nL cells slots Q A pc lv (.int v :: .ref a :: st) ((a, .inr (ci, fs)) :: ws) :=
  fun ls H locs hl hP hD hS => va_put (D := zD G) C.x C.b C.t hin ty0 hty hnm C.o C.K hP hD hS 0 rfl hc k hk (C.t _ hlink) (fun x hx => by rw [← hsame]; exact hx) hfin hd rfl rfl hl0 d (fun H1 locs1 hP1 hD1 hS1 => kk ls H1 locs1 hl hP1 hD1 hS1)
/-- a store into the newest cell -/
theorem n_iast (C : nCx G p s m args meth c own cc nL ret A) {q n j : Nat} {f : Nat → Int32} {i x : Int32} {wr : va_W} (hin : vp_in i n) (hj : i.toNatClampNeg = j) (d : decode cc pc = .ok (.iastore, 1))
    (kk : nWV G p l e R s m args below meth c nL cells slots Q A (pc + 1) lv st (wr ++ [(q, .inl (zaC G 0, n, .inl (upd f j x)))])) : nWV G p l e R s m args below meth c nL cells slots Q A pc lv (.int x :: .int i :: .ref q :: st) (wr ++ [(q, .inl (zaC G 0, n, .inl f))]) := by
  subst hj
  intro ls H locs hl hP hD hS
  have e : ∀ x0 y : Nat × va_E, (wr ++ [x0]).set wr.length y = wr ++ [y] := fun x0 y => by simp
  have e0 : ∀ x0 : Nat × va_E, (wr ++ [x0])[wr.length]? = some x0 := fun x0 => by simp
  refine va_iast (D := zD G) C.x C.b C.K hP hD hS wr.length 0 (e0 _) rfl hin d (fun H1 locs1 hP1 hD1 hS1 => ?_)
  rw [e] at hP1 hD1
  exact kk ls H1 locs1 hl hP1 hD1 hS1
end NR
/-- how a constructor may begin, and how it ends -/
def nPre (G : zLA) (as : List Value) (ws : va_W) (sz : Nat) : Array Value → State → Prop := va_Pc as (fun U => U.heap.size = sz ∧ va_P (zD G) zcl ws U.heap ∧ va_K (zD G) zcl (zty G) U ∧ va_D (fun _ => True) ws ∧ (∀ w ∈ zNW, va_Nw w U) ∧ zSF G (va_A ws sz) U U.heap)
theorem nPre.blind {G : zLA} {as : List Value} {ws : va_W} {sz : Nat} : FrameBlind (nPre G as ws sz) := by
  intro a U g mk h
  obtain ⟨h0, h1, h2, h3, h4, h5, h6⟩ := h
  exact ⟨h0, h1, h2, va_K.moved (u := U) (U := U.calling g mk a) (Vm.Alike.refl U.vm) h3, h4, fun w hw => va_Nw.same (u := U) (U := U.calling g mk a) (zNW_on hw) rfl (h5 w hw), h6.calling⟩
def nR {S : Type} (G : zLA) (sz : Nat) (ws : va_W) (ws' : S → va_W) : Array Value → State → Outcome → State → Prop := fun _ st oc t => (∃ q : S, oc = .returned none ∧ va_P (zD G) zcl (ws' q) t.heap ∧ va_D (va_A ws sz) (ws' q)) ∧ va_F (va_A ws sz) st t
def nM {S : Type} (l : Launch) (G : zLA) (y : MethodName) (wd : List Cond) (rm : Room) (as : List Value) (ws : va_W) (ws' : S → va_W) : Prop :=
  ∀ sz : Nat, Met l y wd rm (nPre G as ws sz) (nR G sz ws ws') rm.cells rm.slots (va_A ws sz)
abbrev nQ {S : Type} (G : zLA) (below : List Frame) (args : Array Value) (s : State) (rm : Room) (ws : va_W) (ws' : S → va_W) : State → Prop := MQ below (nR G s.heap.size ws ws') args s rm.cells rm.slots (va_A ws s.heap.size)
theorem n_ofM {l : Launch} {G : zLA} {own : String} {lv : List (Nat × Value)} {y : MethodName} {b : ByteArray} {ml : Nat} {rm : Room} {as : List Value} {ws : va_W} {S : Type} {ws' : S → va_W} (hy : plainName y.cls = true) (hcl : y.cls = own) (hnm : y.name = "<init>") (hlv : lv_args 0 as = lv) (hsz : (lg_sl as).length ≤ ml)
    (body : ∀ (p : Program) (e : Env) (s : State) (m : MethodId) (args : Array Value) (below : List Frame) (meth : Method) (c : Code), nCx G p s m args meth c own b ml none (va_A ws s.heap.size) → meth.name = "<init>" → nWV G p l e rm s m args below meth c ml 0 0 (nQ G below args s rm ws ws') (va_A ws s.heap.size) 0 lv [] ws) : nM l G y (zws y b ml none) rm as ws ws' := by
  intro sz
  refine Met.ofW (cc := b) (maxL := ml) (ret := none) hy rfl ?_
  intro p e s m args below meth c s₁ B hml hv
  obtain ⟨rfl, hsz0, hP, hK, hD0, hN, hF⟩ := hv
  subst hsz0
  have hts := atoms_spec (ws := zws y b ml none) B.pre
  have hown : s.vm.findClass own = some m.cls := by rw [← hcl]; exact findClass_of_methodNamed B.named
  have hl := lv_entry as (n := ml) hsz
  rw [lg_entry_eq]
  subst hlv
  exact body p e s m _ below meth c ⟨B.exec, B.bytes, hml, B.returns, B.notSynchronized, hown, fun w hw => hts w (List.mem_cons_of_mem _ hw), hN, hK, hF, fun q h => Or.inr h⟩ ((name_of_methodNamed B.named B.method).1.trans hnm) _ _ [] hl hP hD0.self va_S.rf
/-- the other cells, and what a callee makes of its own -/
theorem n_join {A : Nat → Prop} {D : va_G} {cl : List vw_C} {wr wc w1 : va_W} {H H1 : Heap} (hP : va_P D cl (wr ++ wc) H) (hD : va_D A (wr ++ wc)) (hk : ∀ q : Nat, q < H.size → ¬ va_A wc H.size q → H1[q]? = H[q]?) (hF : ∀ q, va_A wc H.size q → A q) (hP1 : va_P D cl w1 H1) (hD1 : va_D (va_A wc H.size) w1) : va_P D cl (wr ++ w1) H1 ∧ va_D A (wr ++ w1) := by
  have hat : ∀ (k : Nat) (q : Nat × va_E), wr[k]? = some q → (wr ++ wc)[k]? = some q := fun k q hq => by
    rw [List.getElem?_append_left (List.getElem?_eq_some_iff.mp hq).1]; exact hq
  have hac : ∀ (k : Nat) (q : Nat × va_E), wc[k]? = some q → (wr ++ wc)[wr.length + k]? = some q := fun k q hq => by
    rw [List.getElem?_append_right (Nat.le_add_right _ _), Nat.add_sub_cancel_left]; exact hq
  have apart : ∀ (k : Nat) (q : Nat × va_E), wr[k]? = some q → q.1 < H.size ∧ ¬ va_A wc H.size q.1 := by
    intro k q hq
    have hl := (hP k q (hat k q hq)).lt
    refine ⟨hl, fun h => ?_⟩
    rcases h with ⟨k2, e, h⟩ | h
    · have hij := hD.1 k (wr.length + k2) q (q.1, e) (hat k q hq) (hac k2 _ h) rfl
      have := (List.getElem?_eq_some_iff.mp hq).1
      omega
    · omega
  refine ⟨va_P.app (fun k q hq => ?_) hP1, va_D.app ⟨fun i j x y hx hy e => hD.1 i j x y (hat i x hx) (hat j y hy) e, fun k q hq => hD.2 k q (hat k q hq)⟩ (hD1.weaken (fun k q _ h => hF q.1 h)) (fun i j x y hx hy hxy => ?_)⟩
  · obtain ⟨g1, g2⟩ := apart k q hq
    exact (hP k q (hat k q hq)).kept (hk q.1 g1 g2)
  · exact (apart i x hx).2 (by rw [hxy]; exact hD1.2 j y hy)
section NS
variable {G : zLA} {p : Program} {l : Launch} {e : Env} {R : Room} {s : State} {m : MethodId} {args : Array Value} {below : List Frame} {meth : Method} {c : Code} {cells slots : Nat} {Q : State → Prop}
variable {own : String} {cc : ByteArray} {nL : Nat} {ret : Option FieldType} {pc : Nat} {lv : List (Nat × Value)} {st : List Value} {ws : va_W} {A : Nat → Prop}
theorem n_back {H : Heap} {locs : List Loc} {ls : Array Slot} {F : Nat → Prop} {X : Heap → Prop} {Qa : State → Outcome → State → Prop} {rest st0 : List Value} {mc ms : Nat} (hr : va_Run p l e R s m args below meth c H locs cells slots mc ms (F0 m pc ls st0) rest Qa F) (hS : va_S A s.heap H locs) (hFA : ∀ q, F q → A q) (hQ : ∀ (st : State) (v : Option Value) (t : State), st.heap = H → Qa st (.returned v) t → v = none ∧ va_F F st t ∧ X t.heap)
    (kk : ∀ (H1 : Heap) (locs1 : List Loc), X H1 → H.size ≤ H1.size → (∀ q : Nat, q < H.size → ¬ F q → H1[q]? = H[q]?) → va_S A s.heap H1 locs1 → W p l e R s m args below meth c H1 locs1 (cells + mc) (slots + ms) Q (F0 m (pc + 3) ls rest)) : W p l e R s m args below meth c H locs cells slots Q (F0 m pc ls st0) := by
  intro T hT X0
  obtain ⟨v, st₀, t, T', L, h0, X', hL, e1, e2, hq, stp⟩ := hr T hT X0
  obtain ⟨rfl, ⟨hz, hk⟩, hx⟩ := hQ st₀ v t h0 hq
  rw [h0] at hz hk
  obtain ⟨t2, a1, b1⟩ := kk T'.heap (locs ++ L) (by rw [e1]; exact hx) (by rw [e1]; exact hz) (fun q h1 h2 => by rw [e1]; exact hk q h1 h2)
    ⟨Nat.le_trans hS.1 (by rw [e1]; exact hz), fun q h1 h2 => by rw [e1, hk q (Nat.lt_of_lt_of_le h1 hS.1) (fun z => h2 (hFA q z))]; exact hS.2.1 q h1 h2, fun q hq => by
      rcases List.mem_append.mp hq with h | h
      · exact hS.2.2 q h
      · exact hFA _ (hL q h)⟩ T' rfl X'
  exact ⟨t2, stp t2 a1, b1⟩
/-- what the tables say of a constructor -/
def nLI (own : String) (index : Nat) (y : MethodName) (b : ByteArray) (ml n : Nat) : Prop :=
  Cond.methodLink own index y ∈ zGW ∧ Cond.instanceMethod y ∈ zGW ∧ Cond.initialized y.cls ∈ zGW ∧ Cond.code y b ml none ∈ zGW ∧ y.name = "<init>" ∧ (y.cls ≠ "java/lang/invoke/MethodHandle" ∧ y.cls ≠ "java/lang/invoke/VarHandle" ∧ (parseMethodDescriptor y.desc).map (fun d => d.parameters.length) = some n)
def nLN (own : String) (index : Nat) (y : MethodName) (host : String) (b : ByteArray) (ml n : Nat) : Prop :=
  Cond.methodLinkNest own index y host ∈ zNW ∧ Cond.instanceMethod y ∈ zGW ∧ Cond.initialized y.cls ∈ zGW ∧ Cond.code y b ml none ∈ zGW ∧ y.name = "<init>" ∧ (y.cls ≠ "java/lang/invoke/MethodHandle" ∧ y.cls ≠ "java/lang/invoke/VarHandle" ∧ (parseMethodDescriptor y.desc).map (fun d => d.parameters.length) = some n)
theorem n_backI (C : nCx G p s m args meth c own cc nL ret A) {q0 : Nat} {e0 : va_E} {H : Heap} {locs : List Loc} {ls : Array Slot} {rest st0 : List Value} {rm : Room} {a : Array Value} {wr : va_W} {S : Type} {ws' : S → va_W}
    (hr : va_Run p l e R s m args below meth c H locs cells slots rm.cells rm.slots (F0 m pc ls st0) rest (nR G H.size [(q0, e0)] ws' a) (va_A [(q0, e0)] H.size)) (hl : lv_has ls nL lv) (hP : va_P (zD G) zcl (wr ++ [(q0, e0)]) H) (hD : va_D A (wr ++ [(q0, e0)])) (hS : va_S A s.heap H locs) (hFA : ∀ q, va_A [(q0, e0)] H.size q → A q)
    (kk : ∀ q : S, nWV G p l e R s m args below meth c nL (cells + rm.cells) (slots + rm.slots) Q A (pc + 3) lv rest (wr ++ ws' q)) : W p l e R s m args below meth c H locs cells slots Q (F0 m pc ls st0) := by
  refine n_back (X := fun H1 => ∃ q : S, va_P (zD G) zcl (ws' q) H1 ∧ va_D (va_A [(q0, e0)] H.size) (ws' q)) hr hS hFA (fun st v t h0 hq => ?_) (fun H1 locs1 hX hz hk hS1 => ?_)
  · obtain ⟨⟨q, h1, h2, h3⟩, h4⟩ := hq
    cases h1
    exact ⟨rfl, h4, q, h2, h3⟩
  · obtain ⟨q, h1, h2⟩ := hX
    obtain ⟨h3, h4⟩ := n_join hP hD hk hFA h1 h2
    exact kk q ls H1 locs1 hl h3 h4 hS1
theorem n_free (C : nCx G p s m args meth c own cc nL ret A) {q0 : Nat} {e0 : va_E} {H : Heap} {locs : List Loc} {wr : va_W} (hD : va_D A (wr ++ [(q0, e0)])) (hS : va_S A s.heap H locs) : ∀ q, va_A [(q0, e0)] H.size q → A q := by
  intro q h
  rcases h with ⟨k, e1, h⟩ | h
  · have hk : k = 0 := by have := (List.getElem?_eq_some_iff.mp h).1; simp at this; exact this
    subst hk
    cases h
    exact hD.2 wr.length (q0, e0) (by simp)
  · exact C.h q (Nat.le_trans hS.1 h)
theorem nPre.of (C : nCx G p s m args meth c own cc nL ret A) {q0 : Nat} {e0 : va_E} {H : Heap} {locs : List Loc} {wr : va_W} (as : List Value) (hP : va_P (zD G) zcl (wr ++ [(q0, e0)]) H) (hD : va_D A (wr ++ [(q0, e0)])) (hS : va_S A s.heap H locs) : ∀ U : State, U.heap = H → s.WarmedH U.vm → nPre G as [(q0, e0)] H.size as.toArray U :=
  fun U hU hW => ⟨rfl, by rw [hU], by
      rw [hU]
      intro k q hq
      have hk : k = 0 := by have := (List.getElem?_eq_some_iff.mp hq).1; simp at this; exact this
      subst hk
      exact hP wr.length q (by simpa using hq), va_K.moved hW.alike C.K, ⟨fun i j x y hx hy _ => by
        have h1 := (List.getElem?_eq_some_iff.mp hx).1
        have h2 := (List.getElem?_eq_some_iff.mp hy).1
        simp at h1 h2
        omega, fun _ _ _ => trivial⟩, zNW_warm hW C.w, by rw [hU]; exact C.F.go hW hS.2.1 (n_free C hD hS)⟩
theorem n_callI (C : nCx G p s m args meth c own cc nL ret A) {index n q0 : Nat} {e0 : va_E} {y : MethodName} {b : ByteArray} {ml : Nat} {rm : Room} {as rest : List Value} {wr : va_W} {S : Type} {ws' : S → va_W} (hL : nLI own index y b ml n) (M : nM l G y (zws y b ml none) rm (.ref q0 :: as) [(q0, e0)] ws') (hn : as.length = n) (hst : st = as.reverse ++ .ref q0 :: rest) (hrest : (rest.map fun v => v.category).sum ≤ 8) (hR : rm.frames + 1 ≤ R.frames ∧ 8 + (ml + 11) + rm.locals ≤ R.locals) (hcs : cells + rm.cells ≤ R.cells ∧ slots + rm.slots ≤ R.slots) (d : decode cc pc = .ok (.invokespecial index, 3))
    (kk : ∀ q : S, nWV G p l e R s m args below meth c nL (cells + rm.cells) (slots + rm.slots) Q A (pc + 3) lv rest (wr ++ ws' q)) : nWV G p l e R s m args below meth c nL cells slots Q A pc lv st (wr ++ [(q0, e0)]) := by
  subst hst
  intro ls H locs hl hP hD hS
  obtain ⟨h1, h2, h3, h4, h5, h6⟩ := hL
  exact n_backI C (va_runI (As := as) (rest := rest) ⟨C.x, C.b, C.n, C.o, C.t⟩ (M H.size) (cwI n C.t (zgood h4) rfl rfl rfl (C.t _ h3) (C.t _ h1) (C.t _ h2) h5 h6 hR) ⟨nPre.blind, nPre.of C _ hP hD hS⟩ rfl hn hl.1 rfl (lv_room hrest) d hcs) hl hP hD hS (n_free C hD hS) kk
theorem n_callIN (C : nCx G p s m args meth c own cc nL ret A) {index n q0 : Nat} {e0 : va_E} {y : MethodName} {host : String} {b : ByteArray} {ml : Nat} {rm : Room} {as rest : List Value} {wr : va_W} {S : Type} {ws' : S → va_W} (hL : nLN own index y host b ml n) (M : nM l G y (zws y b ml none) rm (.ref q0 :: as) [(q0, e0)] ws') (hn : as.length = n) (hst : st = as.reverse ++ .ref q0 :: rest) (hrest : (rest.map fun v => v.category).sum ≤ 8) (hR : rm.frames + 1 ≤ R.frames ∧ 8 + (ml + 11) + rm.locals ≤ R.locals) (hcs : cells + rm.cells ≤ R.cells ∧ slots + rm.slots ≤ R.slots) (d : decode cc pc = .ok (.invokespecial index, 3))
    (kk : ∀ q : S, nWV G p l e R s m args below meth c nL (cells + rm.cells) (slots + rm.slots) Q A (pc + 3) lv rest (wr ++ ws' q)) : nWV G p l e R s m args below meth c nL cells slots Q A pc lv st (wr ++ [(q0, e0)]) := by
  subst hst
  intro ls H locs hl hP hD hS
  obtain ⟨h1, h2, h3, h4, h5, h6⟩ := hL
  exact n_backI C (va_runIN (As := as) (rest := rest) ⟨C.x, C.b, C.n, C.o, C.t⟩ (M H.size) ⟨va_cnB n C.t (zgood h4) rfl rfl rfl (C.w _ h1) (C.t _ h3) h6 hR, h5, C.t _ h2⟩ ⟨nPre.blind, nPre.of C _ hP hD hS⟩ rfl hn hl.1 rfl (lv_room hrest) d hcs) hl hP hD hS (n_free C hD hS) kk
/-- a method of the world, out of a constructor -/
theorem n_callZ (C : nCx G p s m args meth c own cc nL ret A) (hLk : zLok (zL G)) {σ σ' : zSt} {index n ci g o : Nat} {Cn : String} {T : u_T} {N : Nat} {y : MethodName} {b : ByteArray} {ml : Nat} {rm : Room} {as rest : List Value} {fs : List Value} (hL : zLV own index Cn y b ml none n) (hc : zcl[ci]? = some (Cn, T, N)) (M : zM l G y (zws y b ml none) rm (.ref (zad G g o) :: as) σ none σ') (hlive : (g, o) ∈ zL G) (he : zct G σ g o = .inr (ci, fs)) (hn : as.length = n) (hst : st = as.reverse ++ .ref (zad G g o) :: rest) (hrest : (rest.map fun v => v.category).sum ≤ 8) (hR : rm.frames + 1 ≤ R.frames ∧ 8 + (ml + 11) + rm.locals ≤ R.locals) (hcs : cells + rm.cells ≤ R.cells ∧ slots + rm.slots ≤ R.slots) (d : decode cc pc = .ok (.invokevirtual index, 3))
    (kk : nWV G p l e R s m args below meth c nL (cells + rm.cells) (slots + rm.slots) Q A (pc + 3) lv rest (zwd G σ')) : nWV G p l e R s m args below meth c nL cells slots Q A pc lv st (zwd G σ) := by
  subst hst
  intro ls H locs hl hP hD hS
  obtain ⟨q, hq⟩ := zin hlive
  obtain ⟨h1, h2, h3, h4, h5, h6, h7⟩ := hL
  have hAA : ∀ q, zA G H.size q → A q := fun q h => by
    rcases h with ⟨x, hx, rfl⟩ | h
    · obtain ⟨k, hk⟩ := List.getElem?_of_mem hx
      exact hD.2 k _ (zwd_at G σ hk)
    · exact C.h q (Nat.le_trans hS.1 h)
  refine n_back (X := fun H1 => va_P (zD G) zcl (zwd G σ') H1) (va_runV (As := as) (rest := rest) ⟨C.x, C.b, C.n, C.o, C.t⟩ (M H.size) (cwV n C.t (by unfold wsV; exact zgoodA (fun w hw => by simp only [List.mem_cons, List.not_mem_nil, or_false] at hw; rcases hw with rfl | rfl | rfl | rfl <;> assumption) h5) rfl rfl rfl ⟨h6, h7⟩ hR) ⟨zPre.blind, va_recv C.K hP hc ((zwd_at G σ hq).trans (by rw [he])), fun U hU hW => ⟨rfl, by rw [hU], by rw [hU]; exact hP, va_K.moved hW.alike C.K, hD.weaken (fun _ _ _ _ => trivial), zNW_warm hW C.w, by rw [hU]; exact C.F.go hW hS.2.1 hAA, hLk⟩⟩ rfl hn hl.1 rfl (lv_room hrest) d hcs) hS hAA (fun st v t h0 hq => ?_) (fun H1 locs1 hX hz hk hS1 => kk ls H1 locs1 hl hX (zD_any hD) hS1)
  obtain ⟨⟨h1, h2⟩, h4⟩ := hq
  cases h1
  exact ⟨rfl, h4, h2⟩
theorem n_ch {G' : zLA} {ws' : va_W} {st' : List Value} (hD : zD G' = zD G) (hw : ws = ws') (hst : st = st') (k : nWV G' p l e R s m args below meth c nL cells slots Q A pc lv st' ws') : nWV G p l e R s m args below meth c nL cells slots Q A pc lv st ws := by
  subst hw; subst hst
  intro ls H locs hl hP hD' hS
  rw [← hD] at hP
  exact k ls H locs hl hP hD' hS
/-- the end of a constructor -/
theorem n_ret (C : nCx G p s m args meth c own cc nL ret (va_A ws s.heap.size)) {rm : Room} {ws1 : va_W} {S : Type} {ws' : S → va_W} (q : S) (hq : ws' q = ws1) (hr : ret = none) (hc : cells ≤ rm.cells) (hs : slots ≤ rm.slots) (d : decode cc pc = .ok (.return_, 1)) : nWV G p l e R s m args below meth c nL cells slots (nQ G below args s rm ws ws') (va_A ws s.heap.size) pc lv [] ws1 := by
  intro ls H locs hl hP hD hS
  refine W.widen hc hs ?_
  subst hq
  exact W.vret C.x C.b (C.r.trans hr) (fun t ht hW => ⟨⟨q, rfl, by rw [ht]; exact hP, hD⟩, hS.F ht⟩) hS.2.2 d C.k
end NS
