def zXx (l : Launch) (c : Code) : Prop := l.stackTraces = false ∧ (∀ x ∈ c.exceptionTable.toList, False)
def zXpost (G : zLA) (sz : Nat) (out : (Option Value × zSt) ⊕ String) : Array Value → State → Outcome → State → Prop := fun a st oc t => ∃ (ov : Option Value) (σ' : zSt), out = .inl (ov, σ') ∧ zR G sz ov σ' a st oc t
def zXC (G : zLA) (sz : Nat) (out : (Option Value × zSt) ⊕ String) (σ0 : zSt) : String → State → State → Prop := fun E st t => out = .inr E ∧ va_P (zD G) zcl (zwd G σ0) t.heap ∧ va_F (zA G sz) st t
/-- a method that answers or throws; a throw leaves the world as it was -/
def zX (l : Launch) (G : zLA) (y : MethodName) (ws : List Cond) (rm : Room) (as : List Value) (σ : zSt) (out : (Option Value × zSt) ⊕ String) : Prop :=
  ∀ sz : Nat, vx_Met l y ws rm (zPre G as σ sz) (zXpost G sz out) (zXC G sz out σ) rm.cells rm.slots (zA G sz)
abbrev zXQ (G : zLA) (below : List Frame) (args : Array Value) (s : State) (rm : Room) (out : (Option Value × zSt) ⊕ String) (σ0 : zSt) : State → Prop := vx_MQ below (zXpost G s.heap.size out) (zXC G s.heap.size out σ0) args s rm.cells rm.slots (zA G s.heap.size)
/-- q of class E is on its way, at pc, with these locals, the world at σ -/
def zWX (G : zLA) (p : Program) (l : Launch) (e : Env) (R : Room) (s : State) (m : MethodId) (args : Array Value) (below : List Frame) (meth : Method) (c : Code) (nL cells slots : Nat) (Q : State → Prop) (pc : Nat) (lv : List (Nat × Value)) (st : List Value) (σ : zSt) (E : String) : Prop :=
  ∀ (ls : Array Slot) (H : Heap) (locs : List Loc) (q : Addr) (ce : Cell), lv_has ls nL lv → va_P (zD G) zcl (zwd G σ) H → va_D (zA G s.heap.size) (zwd G σ) → va_S (zA G s.heap.size) s.heap H locs → H[q]? = some ce → ce.vm = .none → s.vm.findClass E = some ce.cls → vx_W p l e R s m args below meth c H locs cells slots Q (F0 m pc ls st) q
section ZX
variable {G : zLA} {p : Program} {l : Launch} {e : Env} {R : Room} {s : State} {m : MethodId} {args : Array Value} {below : List Frame} {meth : Method} {c : Code} {cells slots : Nat} {Q : State → Prop} {own : String} {cc : ByteArray} {nL : Nat} {ret : Option FieldType} {pc : Nat} {lv : List (Nat × Value)} {st : List Value} {σ : zSt}
theorem z_ofX {y : MethodName} {b : ByteArray} {ml : Nat} {rt : Option FieldType} {rm : Room} {as : List Value} {out : (Option Value × zSt) ⊕ String} (hy : plainName y.cls = true) (hcl : y.cls = own) (hlv : lv_args 0 as = lv) (hsz : (lg_sl as).length ≤ ml)
    (body : ∀ (p : Program) (e : Env) (s : State) (m : MethodId) (args : Array Value) (below : List Frame) (meth : Method) (c : Code), zCx G p s m args meth c own b ml rt → (∀ x ∈ c.exceptionTable.toList, False) → zWV G p l e rm s m args below meth c ml 0 0 (zXQ G below args s rm out σ) 0 lv [] σ) : zX l G y (zws y b ml rt) rm as σ out := by
  intro sz
  refine vx_ofW (cc := b) (maxL := ml) (ret := rt) hy rfl ?_
  intro p e s m args below meth c s₁ B hml hX hv
  obtain ⟨rfl, hsz0, hP, hK, hD0, hN, hF, hLk⟩ := hv
  subst hsz0
  have hts := atoms_spec (ws := zws y b ml rt) B.pre
  have hown : s.vm.findClass own = some m.cls := by rw [← hcl]; exact findClass_of_methodNamed B.named
  have hl := lv_entry as (n := ml) hsz
  rw [lg_entry_eq]
  subst hlv
  exact body p e s m _ below meth c ⟨B.exec, B.bytes, hml, B.returns, B.notSynchronized, hown, fun w hw => hts w (List.mem_cons_of_mem _ hw), hN, hK, hF, hLk⟩ hX _ _ [] hl hP (zD_A hD0) va_S.rf
theorem z_xret {rm : Room} {out : (Option Value × zSt) ⊕ String} {ov : Option Value} {σ' σ0 : zSt} (h : out = .inl (ov, σ')) (k : zWV G p l e R s m args below meth c nL cells slots (zQ G below args s rm ov σ') pc lv st σ) : zWV G p l e R s m args below meth c nL cells slots (zXQ G below args s rm out σ0) pc lv st σ := by
  intro ls H locs hl hP hD hS
  refine vx_ret ?_
  intro T hT X
  obtain ⟨t, a, o, h1, h2, h3, h4⟩ := k ls H locs hl hP hD hS T hT X
  exact ⟨t, a, o, h1, h2, ⟨ov, σ', h, h3⟩, h4⟩
theorem z_backX {H : Heap} {locs : List Loc} {ls : Array Slot} {rest st0 : List Value} {rm : Room} {out : (Option Value × zSt) ⊕ String} {a : Array Value} (hr : vx_Run p l e R s m args below meth c H locs cells slots rm.cells rm.slots (F0 m pc ls st0) rest (zXpost G H.size out a) (zXC G H.size out σ) (zA G H.size)) (hS : va_S (zA G s.heap.size) s.heap H locs) (hl : lv_has ls nL lv) (hD : va_D (zA G s.heap.size) (zwd G σ))
    (kx : ∀ E : String, out = .inr E → zWX G p l e R s m args below meth c nL (cells + rm.cells) (slots + rm.slots) Q pc lv rest σ E)
    (kk : ∀ (ov : Option Value) (σ' : zSt), out = .inl (ov, σ') → zWV G p l e R s m args below meth c nL (cells + rm.cells) (slots + rm.slots) Q (pc + 3) lv (ov.toList ++ rest) σ') : W p l e R s m args below meth c H locs cells slots Q (F0 m pc ls st0) := by
  have hA := zA_forall hS
  intro T hT X
  rcases hr T hT X with ⟨v, st₀, t, T', L, h0, X', hL, e1, e2, ⟨ov, σ', ho, ⟨hv, hb⟩, hF⟩, stp⟩ | ⟨q, st₀, t, T', L, E, ce, h0, X', hL, e1, e2, ⟨ho, hb, hF⟩, hce, hcv, hcl, stp⟩
  · cases hv
    obtain ⟨k1, k2, k3⟩ := vx_keep h0 e1 hS (fun q _ h => hA q h) hA hL hF
    obtain ⟨t2, a1, b1⟩ := kk _ σ' ho ls T'.heap (locs ++ L) hl (by rw [e1]; exact hb) (zD_any hD) k3 T' rfl X'
    exact ⟨t2, stp t2 a1, b1⟩
  · obtain ⟨k1, k2, k3⟩ := vx_keep h0 e1 hS (fun q _ h => hA q h) hA hL hF
    obtain ⟨t2, a1, b1⟩ := kx E ho ls T'.heap (locs ++ L) q ce hl (by rw [e1]; exact hb) hD k3 (by rw [e1]; exact hce) hcv hcl T' rfl X'
    exact ⟨t2, stp.trans a1, b1⟩
theorem z_callXV (C : zCx G p s m args meth c own cc nL ret) {index n ci g o : Nat} {Cn : String} {T : u_T} {N : Nat} {y : MethodName} {b : ByteArray} {ml : Nat} {rt : Option FieldType} {rm : Room} {as rest : List Value} {out : (Option Value × zSt) ⊕ String} {fs : List Value} (hL : zLV own index Cn y b ml rt n) (hc : zcl[ci]? = some (Cn, T, N)) (M : zX l G y (zws y b ml rt) rm (.ref (zad G g o) :: as) σ out) (hlive : (g, o) ∈ zL G) (he : zct G σ g o = .inr (ci, fs)) (hn : as.length = n) (hst : st = as.reverse ++ .ref (zad G g o) :: rest) (hrest : (rest.map fun v => v.category).sum ≤ 8) (hR : rm.frames + 1 ≤ R.frames ∧ 8 + (ml + 11) + rm.locals ≤ R.locals) (hcs : cells + rm.cells ≤ R.cells ∧ slots + rm.slots ≤ R.slots) (d : decode cc pc = .ok (.invokevirtual index, 3))
    (kx : ∀ E : String, out = .inr E → zWX G p l e R s m args below meth c nL (cells + rm.cells) (slots + rm.slots) Q pc lv rest σ E)
    (kk : ∀ (ov : Option Value) (σ' : zSt), out = .inl (ov, σ') → zWV G p l e R s m args below meth c nL (cells + rm.cells) (slots + rm.slots) Q (pc + 3) lv (ov.toList ++ rest) σ') : zWV G p l e R s m args below meth c nL cells slots Q pc lv st σ := by
  subst hst
  intro ls H locs hl hP hD hS
  obtain ⟨q, hq⟩ := zin hlive
  obtain ⟨h1, h2, h3, h4, h5, h6, h7⟩ := hL
  exact z_backX (vx_runV (As := as) (rest := rest) ⟨C.x, C.b, C.n, C.o, C.t⟩ (M H.size) (cwV n C.t (by unfold wsV; exact zgoodA (fun w hw => by simp only [List.mem_cons, List.not_mem_nil, or_false] at hw; rcases hw with rfl | rfl | rfl | rfl <;> assumption) h5) rfl rfl rfl ⟨h6, h7⟩ hR) ⟨zPre.blind, va_recv C.K hP hc ((zwd_at G σ hq).trans (by rw [he])), zPre.of _ C.K C.w C.F C.L hP hD hS⟩ rfl hn hl.1 rfl (lv_room hrest) d hcs) hS hl hD kx kk
theorem z_callXS (C : zCx G p s m args meth c own cc nL ret) {index n : Nat} {y : MethodName} {b : ByteArray} {ml : Nat} {rt : Option FieldType} {rm : Room} {as rest : List Value} {out : (Option Value × zSt) ⊕ String} (hL : zLS own index y b ml rt n) (M : zX l G y (zws y b ml rt) rm as σ out) (hn : as.length = n) (hst : st = as.reverse ++ rest) (hrest : (rest.map fun v => v.category).sum ≤ 8) (hR : rm.frames + 1 ≤ R.frames ∧ 8 + (ml + 11) + rm.locals ≤ R.locals) (hcs : cells + rm.cells ≤ R.cells ∧ slots + rm.slots ≤ R.slots) (d : decode cc pc = .ok (.invokestatic index, 3))
    (kx : ∀ E : String, out = .inr E → zWX G p l e R s m args below meth c nL (cells + rm.cells) (slots + rm.slots) Q pc lv rest σ E)
    (kk : ∀ (ov : Option Value) (σ' : zSt), out = .inl (ov, σ') → zWV G p l e R s m args below meth c nL (cells + rm.cells) (slots + rm.slots) Q (pc + 3) lv (ov.toList ++ rest) σ') : zWV G p l e R s m args below meth c nL cells slots Q pc lv st σ := by
  subst hst
  intro ls H locs hl hP hD hS
  obtain ⟨h1, h2, h3, h4, h7⟩ := hL
  exact z_backX (vx_runS (As := as) (rest := rest) ⟨C.x, C.b, C.n, C.o, C.t⟩ (M H.size) (va_cwS n C.t (by unfold va_wsS; exact zgoodA (fun w hw => by simp only [List.mem_cons, List.not_mem_nil, or_false] at hw; rcases hw with rfl | rfl | rfl <;> assumption) h4) rfl rfl rfl h7 hR) ⟨zPre.blind, zPre.of _ C.K C.w C.F C.L hP hD hS⟩ rfl hn hl.1 rfl (lv_room hrest) d hcs) hS hl hD kx kk
theorem z_out (C : zCx G p s m args meth c own cc nL ret) (X : zXx l c) {rm : Room} {out : (Option Value × zSt) ⊕ String} {E : String} (ho : out = .inr E) (hc : cells ≤ rm.cells) (hs : slots ≤ rm.slots) : zWX G p l e R s m args below meth c nL cells slots (zXQ G below args s rm out σ) pc lv st σ E := by
  intro ls H locs q ce hl hP hD hS hq hv hcl
  exact vx_out (fun x hx => (X.2 x hx).elim) C.k hq hv hcl (fun t ht _ => ⟨ho, by rw [ht]; exact hP, hS.F ht⟩) hS.2.2 hc hs
theorem z_cXVv (C : zCx G p s m args meth c own cc nL ret) {index n ci g o : Nat} {Cn : String} {T : u_T} {N : Nat} {y : MethodName} {b : ByteArray} {ml : Nat} {rt : Option FieldType} {rm : Room} {as rest : List Value} {σ' : zSt} {fs : List Value} (hL : zLV own index Cn y b ml rt n) (hc : zcl[ci]? = some (Cn, T, N)) (M : zX l G y (zws y b ml rt) rm (.ref (zad G g o) :: as) σ (.inl (none, σ'))) (hlive : (g, o) ∈ zL G) (he : zct G σ g o = .inr (ci, fs)) (hn : as.length = n) (hst : st = as.reverse ++ .ref (zad G g o) :: rest) (hrest : (rest.map fun v => v.category).sum ≤ 8) (hR : rm.frames + 1 ≤ R.frames ∧ 8 + (ml + 11) + rm.locals ≤ R.locals) (hcs : cells + rm.cells ≤ R.cells ∧ slots + rm.slots ≤ R.slots) (d : decode cc pc = .ok (.invokevirtual index, 3))
    (kk : zWV G p l e R s m args below meth c nL (cells + rm.cells) (slots + rm.slots) Q (pc + 3) lv rest σ') : zWV G p l e R s m args below meth c nL cells slots Q pc lv st σ :=
  z_callXV C hL hc M hlive he hn hst hrest hR hcs d (fun _ h => by cases h) (fun _ _ h => by cases h; exact kk)
theorem z_tXVv (C : zCx G p s m args meth c own cc nL ret) {index n ci g o : Nat} {Cn : String} {T : u_T} {N : Nat} {y : MethodName} {b : ByteArray} {ml : Nat} {rt : Option FieldType} {rm rm0 : Room} {as rest : List Value} {E : String} {out : (Option Value × zSt) ⊕ String} {fs : List Value} (hL : zLV own index Cn y b ml rt n) (hc : zcl[ci]? = some (Cn, T, N)) (M : zX l G y (zws y b ml rt) rm (.ref (zad G g o) :: as) σ (.inr E)) (hlive : (g, o) ∈ zL G) (he : zct G σ g o = .inr (ci, fs)) (hn : as.length = n) (hst : st = as.reverse ++ .ref (zad G g o) :: rest) (hrest : (rest.map fun v => v.category).sum ≤ 8) (hR : rm.frames + 1 ≤ R.frames ∧ 8 + (ml + 11) + rm.locals ≤ R.locals) (hcs : cells + rm.cells ≤ R.cells ∧ slots + rm.slots ≤ R.slots) (d : decode cc pc = .ok (.invokevirtual index, 3)) (X : zXx l c) (ho : out = .inr E) (h1 : cells + rm.cells ≤ rm0.cells) (h2 : slots + rm.slots ≤ rm0.slots) : zWV G p l e R s m args below meth c nL cells slots (zXQ G below args s rm0 out σ) pc lv st σ :=
  z_callXV C hL hc M hlive he hn hst hrest hR hcs d (fun _ h => by cases h; exact z_out C X ho h1 h2) (fun _ _ h => by cases h)
theorem z_cXSv (C : zCx G p s m args meth c own cc nL ret) {index n : Nat} {y : MethodName} {b : ByteArray} {ml : Nat} {rt : Option FieldType} {rm : Room} {as rest : List Value} {σ' : zSt} (hL : zLS own index y b ml rt n) (M : zX l G y (zws y b ml rt) rm as σ (.inl (none, σ'))) (hn : as.length = n) (hst : st = as.reverse ++ rest) (hrest : (rest.map fun v => v.category).sum ≤ 8) (hR : rm.frames + 1 ≤ R.frames ∧ 8 + (ml + 11) + rm.locals ≤ R.locals) (hcs : cells + rm.cells ≤ R.cells ∧ slots + rm.slots ≤ R.slots) (d : decode cc pc = .ok (.invokestatic index, 3))
    (kk : zWV G p l e R s m args below meth c nL (cells + rm.cells) (slots + rm.slots) Q (pc + 3) lv rest σ') : zWV G p l e R s m args below meth c nL cells slots Q pc lv st σ :=
  z_callXS C hL M hn hst hrest hR hcs d (fun _ h => by cases h) (fun _ _ h => by cases h; exact kk)
theorem z_tXSv (C : zCx G p s m args meth c own cc nL ret) {index n : Nat} {y : MethodName} {b : ByteArray} {ml : Nat} {rt : Option FieldType} {rm rm0 : Room} {as rest : List Value} {E : String} {out : (Option Value × zSt) ⊕ String} (hL : zLS own index y b ml rt n) (M : zX l G y (zws y b ml rt) rm as σ (.inr E)) (hn : as.length = n) (hst : st = as.reverse ++ rest) (hrest : (rest.map fun v => v.category).sum ≤ 8) (hR : rm.frames + 1 ≤ R.frames ∧ 8 + (ml + 11) + rm.locals ≤ R.locals) (hcs : cells + rm.cells ≤ R.cells ∧ slots + rm.slots ≤ R.slots) (d : decode cc pc = .ok (.invokestatic index, 3)) (X : zXx l c) (ho : out = .inr E) (h1 : cells + rm.cells ≤ rm0.cells) (h2 : slots + rm.slots ≤ rm0.slots) : zWV G p l e R s m args below meth c nL cells slots (zXQ G below args s rm0 out σ) pc lv st σ :=
  z_callXS C hL M hn hst hrest hR hcs d (fun _ h => by cases h; exact z_out C X ho h1 h2) (fun _ _ h => by cases h)
def znm : List String := ["java/lang/RuntimeException", "java/lang/Exception"]
theorem zat_of {ic : Nat} {E : String} (h : ∀ w ∈ vx_atS "VillageWaves" ic E znm, w ∈ lw_tbl) (hg : (vx_atS "VillageWaves" ic E znm).all (fun w => goodWord w || zisN w) = true) : ∀ w ∈ vx_atS "VillageWaves" ic E znm, w ∈ zGW ∨ w ∈ zNW := by
  intro w hw
  have h1 := List.all_eq_true.mp hg w hw
  rcases (Bool.or_eq_true _ _).mp h1 with q | q
  · exact Or.inl (List.mem_filter.mpr ⟨h w hw, q⟩)
  · exact Or.inr (List.mem_filter.mpr ⟨h w hw, q⟩)
theorem zth_of (C : zCx G p s m args meth c "VillageWaves" cc nL ret) (X : zXx l c) {E text : String} {ik ist ic : Nat} {rm : Room} {out : (Option Value × zSt) ⊕ String} (k : Nat) (hk21 : k < 8) (ho1 : zs1 k = "VillageWaves") (ho2 : zs2 k = ist) (ho3 : zs3 k = text) (hcls : Bundle.fit E = true) (hk : Cond.classLink "VillageWaves" ik E ∈ zGW) (hini : Cond.initialized E ∈ zGW) (hat : ∀ w ∈ vx_atS "VillageWaves" ic E znm, w ∈ zGW ∨ w ∈ zNW) (hgood : ∀ w ∈ Cond.classLink "VillageWaves" ik E :: Cond.initialized E :: vx_atS "VillageWaves" ic E znm, vx_ot w = true) (ho : out = .inr E)
    (d0 : decode cc pc = .ok (.new ik, 3)) (d3 : decode cc (pc + 3) = .ok (.dup, 1)) (d4 : decode cc (pc + 4) = .ok (.ldc ist, 2)) (d6 : decode cc (pc + 6) = .ok (.invokespecial ic, 3)) (d9 : decode cc (pc + 9) = .ok (.athrow, 1))
    (r1 : 6 ≤ R.frames) (r2 : 90 ≤ R.locals) (r3 : cells + 1 ≤ R.cells) (r4 : slots + 6 ≤ R.slots) (r5 : cells + 1 ≤ rm.cells) (r6 : slots + 6 ≤ rm.slots) : zWV G p l e R s m args below meth c nL cells slots (zXQ G below args s rm out σ) pc lv [] σ := by
  intro ls H locs hl hP hD hS
  subst ho2; subst ho3
  exact vx_throwS C.x C.b X.1 (names := znm) C.o hcls (by decide +kernel) (C.t _ hk) (C.t _ hini) (by have h := C.F.2.2.1 k hk21; rw [ho1] at h; exact h) (fun w hw => (hat w hw).elim (C.t w) (fun h => va_Nw.use (zNW_on h) (C.w w h))) hgood C.F.2.2.2.1 C.F.2.2.2.2 hS (hl.1.trans C.n.symm) d0 d3 d4 d6 d9 (fun x hx => (X.2 x hx).elim) (by show 2 + 3 < _; omega) (by show 0 + (13 * (2 + 1) + 43) ≤ _; omega) r3 r4 C.k (fun t hA h1 h2 => ⟨ho, hP.kept (fun k q hk => h2 q.1 (hP k q hk).lt), Nat.le_trans hS.1 h1, fun q q1 q2 => (h2 q (Nat.lt_of_lt_of_le q1 hS.1)).trans (hS.2.1 q q1 q2)⟩) hS.2.2 r5 r6
theorem zthw_of (C : zCx G p s m args meth c "VillageWaves" cc nL ret) (X : zXx l c) {E text : String} {ik ist ic : Nat} {rm : Room} {out : (Option Value × zSt) ⊕ String} (k : Nat) (hk21 : k < 8) (ho1 : zs1 k = "VillageWaves") (ho2 : zs2 k = ist) (ho3 : zs3 k = text) (hcls : Bundle.fit E = true) (hk : Cond.classLink "VillageWaves" ik E ∈ zGW) (hini : Cond.initialized E ∈ zGW) (hat : ∀ w ∈ vx_atS "VillageWaves" ic E znm, w ∈ zGW ∨ w ∈ zNW) (hgood : ∀ w ∈ Cond.classLink "VillageWaves" ik E :: Cond.initialized E :: vx_atS "VillageWaves" ic E znm, vx_ot w = true) (ho : out = .inr E)
    (d0 : decode cc pc = .ok (.new ik, 3)) (d3 : decode cc (pc + 3) = .ok (.dup, 1)) (d4 : decode cc (pc + 4) = .ok (.ldc_w ist, 3)) (d6 : decode cc (pc + 7) = .ok (.invokespecial ic, 3)) (d9 : decode cc (pc + 10) = .ok (.athrow, 1))
    (r1 : 6 ≤ R.frames) (r2 : 90 ≤ R.locals) (r3 : cells + 1 ≤ R.cells) (r4 : slots + 6 ≤ R.slots) (r5 : cells + 1 ≤ rm.cells) (r6 : slots + 6 ≤ rm.slots) : zWV G p l e R s m args below meth c nL cells slots (zXQ G below args s rm out σ) pc lv [] σ := by
  intro ls H locs hl hP hD hS
  subst ho2; subst ho3
  exact vx_throwSW C.x C.b X.1 (names := znm) C.o hcls (by decide +kernel) (C.t _ hk) (C.t _ hini) (by have h := C.F.2.2.1 k hk21; rw [ho1] at h; exact h) (fun w hw => (hat w hw).elim (C.t w) (fun h => va_Nw.use (zNW_on h) (C.w w h))) hgood C.F.2.2.2.1 C.F.2.2.2.2 hS (hl.1.trans C.n.symm) d0 d3 d4 d6 d9 (fun x hx => (X.2 x hx).elim) (by show 2 + 3 < _; omega) (by show 0 + (13 * (2 + 1) + 43) ≤ _; omega) r3 r4 C.k (fun t hA h1 h2 => ⟨ho, hP.kept (fun k q hk => h2 q.1 (hP k q hk).lt), Nat.le_trans hS.1 h1, fun q q1 q2 => (h2 q (Nat.lt_of_lt_of_le q1 hS.1)).trans (hS.2.1 q q1 q2)⟩) hS.2.2 r5 r6
end ZX
def cv_pu (out : Unit ⊕ String) (σ : zSt) : (Option Value × zSt) ⊕ String := match out with | .inl _ => .inl (none, σ) | .inr E => .inr E
def cv_pi (out : Int32 ⊕ String) (σ : zSt) : (Option Value × zSt) ⊕ String := match out with | .inl r => .inl (some (.int r), σ) | .inr E => .inr E
def cv_pd (out : UInt64 ⊕ String) (σ : zSt) : (Option Value × zSt) ⊕ String := match out with | .inl r => .inl (some (.double r), σ) | .inr E => .inr E
def cv_wu (out : zSt ⊕ String) (_ : zSt) : (Option Value × zSt) ⊕ String := match out with | .inl σ' => .inl (none, σ') | .inr E => .inr E
def cv_wi (out : (Int32 × zSt) ⊕ String) (_ : zSt) : (Option Value × zSt) ⊕ String := match out with | .inl r => .inl (some (.int r.1), r.2) | .inr E => .inr E
def cv_wd (out : (UInt64 × zSt) ⊕ String) (_ : zSt) : (Option Value × zSt) ⊕ String := match out with | .inl r => .inl (some (.double r.1), r.2) | .inr E => .inr E
theorem zat_103 : ∀ w ∈ vx_atS "VillageWaves" 103 "java/lang/IllegalArgumentException" znm, w ∈ zGW ∨ w ∈ zNW := zat_of (by decide +kernel) (by decide +kernel)
theorem zag_103 : ∀ w ∈ Cond.classLink "VillageWaves" 99 "java/lang/IllegalArgumentException" :: Cond.initialized "java/lang/IllegalArgumentException" :: vx_atS "VillageWaves" 103 "java/lang/IllegalArgumentException" znm, vx_ot w = true := by decide +kernel
theorem zth_103_349 {G : zLA} {p : Program} {l : Launch} {e : Env} {R : Room} {s : State} {m : MethodId} {args : Array Value} {below : List Frame} {meth : Method} {c : Code} {cells slots : Nat} {cc : ByteArray} {nL : Nat} {ret : Option FieldType} {pc : Nat} {lv : List (Nat × Value)} {σ : zSt} (C : zCx G p s m args meth c "VillageWaves" cc nL ret) (X : zXx l c) {rm : Room} {out : (Option Value × zSt) ⊕ String} (ho : out = .inr "java/lang/IllegalArgumentException") (d0 : decode cc pc = .ok (.new 99, 3)) (d3 : decode cc (pc + 3) = .ok (.dup, 1)) (d4 : decode cc (pc + 4) = .ok (.ldc_w 349, 3)) (d6 : decode cc (pc + 7) = .ok (.invokespecial 103, 3)) (d9 : decode cc (pc + 10) = .ok (.athrow, 1)) (r1 : 6 ≤ R.frames) (r2 : 90 ≤ R.locals) (r3 : cells + 1 ≤ R.cells) (r4 : slots + 6 ≤ R.slots) (r5 : cells + 1 ≤ rm.cells) (r6 : slots + 6 ≤ rm.slots) : zWV G p l e R s m args below meth c nL cells slots (zXQ G below args s rm out σ) pc lv [] σ := zthw_of C X 0 (by decide) rfl rfl rfl (by decide +kernel) (zgw 421 (by decide +kernel) rfl) (zgw 42 (by decide +kernel) rfl) zat_103 zag_103 ho d0 d3 d4 d6 d9 r1 r2 r3 r4 r5 r6

abbrev rm_Waves_checkWithinX : Room := { frames := 6, cells := 1, slots := 6, locals := 92 }
theorem d_Waves_checkWithinX_0 : decode b_Waves_checkWithinX 0 = .ok (.iload_n 0, 1) := by decide +kernel
theorem d_Waves_checkWithinX_1 : decode b_Waves_checkWithinX 1 = .ok (.iload_n 1, 1) := by decide +kernel
theorem d_Waves_checkWithinX_2 : decode b_Waves_checkWithinX 2 = .ok (.if_icmp .lt 8, 3) := by decide +kernel
theorem d_Waves_checkWithinX_5 : decode b_Waves_checkWithinX 5 = .ok (.iload_n 0, 1) := by decide +kernel
theorem d_Waves_checkWithinX_6 : decode b_Waves_checkWithinX 6 = .ok (.iload_n 2, 1) := by decide +kernel
theorem d_Waves_checkWithinX_7 : decode b_Waves_checkWithinX 7 = .ok (.if_icmp .le 14, 3) := by decide +kernel
theorem d_Waves_checkWithinX_10 : decode b_Waves_checkWithinX 10 = .ok (.new 99, 3) := by decide +kernel
theorem d_Waves_checkWithinX_13 : decode b_Waves_checkWithinX 13 = .ok (.dup, 1) := by decide +kernel
theorem d_Waves_checkWithinX_14 : decode b_Waves_checkWithinX 14 = .ok (.ldc_w 349, 3) := by decide +kernel
theorem d_Waves_checkWithinX_17 : decode b_Waves_checkWithinX 17 = .ok (.invokespecial 103, 3) := by decide +kernel
theorem d_Waves_checkWithinX_20 : decode b_Waves_checkWithinX 20 = .ok (.athrow, 1) := by decide +kernel
theorem d_Waves_checkWithinX_21 : decode b_Waves_checkWithinX 21 = .ok (.return_, 1) := by decide +kernel
def F_Waves_checkWithinX (a0 : Int32) (a1 : Int32) (a2 : Int32) (σ : zSt) : Option ((Unit) ⊕ String) :=
  if a0 < a1 then some (.inr "java/lang/IllegalArgumentException") else (if a0 ≤ a2 then some (.inl ()) else some (.inr "java/lang/IllegalArgumentException"))
set_option maxHeartbeats 4000000 in
set_option maxRecDepth 100000 in
theorem c_Waves_checkWithinX {l : Launch} (hst : l.stackTraces = false) {G : zLA} {a0 : Int32} {a1 : Int32} {a2 : Int32} {σ : zSt} {out : (Unit) ⊕ String} (hf : F_Waves_checkWithinX a0 a1 a2 σ = some out) : zX l G y_Waves_checkWithinX (zws y_Waves_checkWithinX b_Waves_checkWithinX 3 none) rm_Waves_checkWithinX [.int a0, .int a1, .int a2] σ (cv_pu out σ) := by
  refine z_ofX (own := "VillageWaves") (lv := [(0, .int a0), (1, .int a1), (2, .int a2)]) (by decide +kernel) rfl rfl (Nat.le_of_ble_eq_true rfl) (fun p e s m args below meth c C X0 => ?_)
  have X : zXx l c := ⟨hst, X0⟩
  rw [F_Waves_checkWithinX] at hf
  refine z_iload_n C d_Waves_checkWithinX_0 0 rfl rfl ?_
  refine z_iload_n C d_Waves_checkWithinX_1 1 rfl rfl ?_
  refine z_icmp_lt (tgt := 10) C d_Waves_checkWithinX_2 rfl (fun h2 => ?_) (fun h2 => ?_)
  · have hf := iff_t hf h2
    cases hf
    exact zth_103_349 C X rfl d_Waves_checkWithinX_10 d_Waves_checkWithinX_13 d_Waves_checkWithinX_14 d_Waves_checkWithinX_17 d_Waves_checkWithinX_20 (Nat.le_of_ble_eq_true rfl) (Nat.le_of_ble_eq_true rfl) (Nat.le_of_ble_eq_true rfl) (Nat.le_of_ble_eq_true rfl) (Nat.le_of_ble_eq_true rfl) (Nat.le_of_ble_eq_true rfl)
  · have hf := iff_f hf h2
    refine z_iload_n C d_Waves_checkWithinX_5 0 rfl rfl ?_
    refine z_iload_n C d_Waves_checkWithinX_6 2 rfl rfl ?_
    refine z_icmp_le (tgt := 21) C d_Waves_checkWithinX_7 rfl (fun h1 => ?_) (fun h1 => ?_)
    · have hf := iff_t hf h1
      cases hf
      refine z_xret rfl ?_
      exact z_vret C rfl (Nat.le_of_ble_eq_true rfl) (Nat.le_of_ble_eq_true rfl) d_Waves_checkWithinX_21
    · have hf := iff_f hf h1
      cases hf
      exact zth_103_349 C X rfl d_Waves_checkWithinX_10 d_Waves_checkWithinX_13 d_Waves_checkWithinX_14 d_Waves_checkWithinX_17 d_Waves_checkWithinX_20 (Nat.le_of_ble_eq_true rfl) (Nat.le_of_ble_eq_true rfl) (Nat.le_of_ble_eq_true rfl) (Nat.le_of_ble_eq_true rfl) (Nat.le_of_ble_eq_true rfl) (Nat.le_of_ble_eq_true rfl)
abbrev rm_Waves_runX : Room := { frames := 7, cells := 1, slots := 6, locals := 142 }
theorem d_Waves_runX_0 : decode b_Waves_runX 0 = .ok (.iload_n 1, 1) := by decide +kernel
theorem d_Waves_runX_1 : decode b_Waves_runX 1 = .ok (.iconst 1, 1) := by decide +kernel
theorem d_Waves_runX_2 : decode b_Waves_runX 2 = .ok (.sipush 500, 3) := by decide +kernel
theorem d_Waves_runX_5 : decode b_Waves_runX 5 = .ok (.invokestatic 56, 3) := by decide +kernel
theorem d_Waves_runX_8 : decode b_Waves_runX 8 = .ok (.aload_n 0, 1) := by decide +kernel
theorem d_Waves_runX_9 : decode b_Waves_runX 9 = .ok (.getfield 10, 3) := by decide +kernel
theorem d_Waves_runX_12 : decode b_Waves_runX 12 = .ok (.getfield 155, 3) := by decide +kernel
theorem d_Waves_runX_15 : decode b_Waves_runX 15 = .ok (.getfield 159, 3) := by decide +kernel
theorem d_Waves_runX_18 : decode b_Waves_runX 18 = .ok (.istore_n 2, 1) := by decide +kernel
theorem d_Waves_runX_19 : decode b_Waves_runX 19 = .ok (.aload_n 0, 1) := by decide +kernel
theorem d_Waves_runX_20 : decode b_Waves_runX 20 = .ok (.getfield 10, 3) := by decide +kernel
theorem d_Waves_runX_23 : decode b_Waves_runX 23 = .ok (.iload_n 1, 1) := by decide +kernel
theorem d_Waves_runX_24 : decode b_Waves_runX 24 = .ok (.invokevirtual 304, 3) := by decide +kernel
theorem d_Waves_runX_27 : decode b_Waves_runX 27 = .ok (.aload_n 0, 1) := by decide +kernel
theorem d_Waves_runX_28 : decode b_Waves_runX 28 = .ok (.getfield 10, 3) := by decide +kernel
theorem d_Waves_runX_31 : decode b_Waves_runX 31 = .ok (.getfield 155, 3) := by decide +kernel
theorem d_Waves_runX_34 : decode b_Waves_runX 34 = .ok (.getfield 159, 3) := by decide +kernel
theorem d_Waves_runX_37 : decode b_Waves_runX 37 = .ok (.iload_n 2, 1) := by decide +kernel
theorem d_Waves_runX_38 : decode b_Waves_runX 38 = .ok (.isub, 1) := by decide +kernel
theorem d_Waves_runX_39 : decode b_Waves_runX 39 = .ok (.ireturn, 1) := by decide +kernel
def F_Waves_runX (a0 : Int32) (σ : zSt) : Option ((Int32 × zSt) ⊕ String) :=
  (F_Waves_checkWithinX a0 (1 : Int32) (500 : Int32) σ).bind fun q2 => match q2 with | .inr E5 => some (.inr E5) | .inl _ => (F_Village_pass 0 a0 σ).bind fun σ4 => some (.inl (((σ4.1 0 59 0) - (σ.1 0 59 0)), σ4))
set_option maxHeartbeats 4000000 in
set_option maxRecDepth 100000 in
theorem c_Waves_runX {l : Launch} (hst : l.stackTraces = false) {G : zLA} (hx : zxl G) {a0 : Int32} {σ : zSt} {out : (Int32 × zSt) ⊕ String} (hf : F_Waves_runX a0 σ = some out) : zX l G y_Waves_runX (zws y_Waves_runX b_Waves_runX 3 (some .int)) rm_Waves_runX [.ref (zad G 4 70), .int a0] σ (cv_wi out σ) := by
  refine z_ofX (own := "VillageWaves") (lv := [(0, .ref (zad G 4 70)), (1, .int a0)]) (by decide +kernel) rfl rfl (Nat.le_of_ble_eq_true rfl) (fun p e s m args below meth c C X0 => ?_)
  have X : zXx l c := ⟨hst, X0⟩
  rw [F_Waves_runX] at hf
  refine z_iload_n C d_Waves_runX_0 1 rfl rfl ?_
  refine z_iconst C d_Waves_runX_1 zki_1 ?_
  refine z_sipush C d_Waves_runX_2 zks_500 ?_
  obtain ⟨q2, h1, hf⟩ := bd_s hf
  cases q2 with
  | inr E5 =>
    cases hf
    exact z_tXSv C kl_Waves_56 (c_Waves_checkWithinX X.1 h1) rfl rfl (Nat.le_of_ble_eq_true rfl) ⟨(Nat.le_of_ble_eq_true rfl), (Nat.le_of_ble_eq_true rfl)⟩ ⟨(Nat.le_of_ble_eq_true rfl), (Nat.le_of_ble_eq_true rfl)⟩ d_Waves_runX_5 X rfl (Nat.le_of_ble_eq_true rfl) (Nat.le_of_ble_eq_true rfl)
  | inl _ =>
    refine z_cXSv C kl_Waves_56 (c_Waves_checkWithinX X.1 h1) rfl rfl (Nat.le_of_ble_eq_true rfl) ⟨(Nat.le_of_ble_eq_true rfl), (Nat.le_of_ble_eq_true rfl)⟩ ⟨(Nat.le_of_ble_eq_true rfl), (Nat.le_of_ble_eq_true rfl)⟩ d_Waves_runX_5 ?_
    refine z_aload_n C d_Waves_runX_8 0 rfl rfl ?_
    refine gf_Waves_10 C (zx4 hx 70 rfl) rfl rfl d_Waves_runX_9 ?_
    refine gf_Waves_155 C (zlv (zxv hx 0 rfl) 0 rfl) rfl rfl d_Waves_runX_12 ?_
    refine gf_Waves_159 C (zlv (zxv hx 0 rfl) 59 rfl) rfl rfl d_Waves_runX_15 ?_
    refine z_istore_n C d_Waves_runX_18 rfl (by decide) ?_
    refine z_aload_n C d_Waves_runX_19 1 rfl rfl ?_
    refine gf_Waves_10 C (zx4 hx 70 rfl) rfl rfl d_Waves_runX_20 ?_
    refine z_iload_n C d_Waves_runX_23 2 rfl rfl ?_
    obtain ⟨σ4, h3, hf⟩ := bd_s hf
    refine z_cVv C kl_Waves_304 rfl (c_Village_pass (zxv hx 0 rfl) h3) (zlv (zxv hx 0 rfl) 0 rfl) rfl rfl rfl (Nat.le_of_ble_eq_true rfl) ⟨(Nat.le_of_ble_eq_true rfl), (Nat.le_of_ble_eq_true rfl)⟩ ⟨(Nat.le_of_ble_eq_true rfl), (Nat.le_of_ble_eq_true rfl)⟩ d_Waves_runX_24 ?_
    refine z_aload_n C d_Waves_runX_27 1 rfl rfl ?_
    refine gf_Waves_10 C (zx4 hx 70 rfl) rfl rfl d_Waves_runX_28 ?_
    refine gf_Waves_155 C (zlv (zxv hx 0 rfl) 0 rfl) rfl rfl d_Waves_runX_31 ?_
    refine gf_Waves_159 C (zlv (zxv hx 0 rfl) 59 rfl) rfl rfl d_Waves_runX_34 ?_
    refine z_iload_n C d_Waves_runX_37 0 rfl rfl ?_
    refine z_isub C d_Waves_runX_38 ?_
    cases hf
    refine z_xret rfl ?_
    exact z_iret C rfl (Nat.le_of_ble_eq_true rfl) (Nat.le_of_ble_eq_true rfl) d_Waves_runX_39
