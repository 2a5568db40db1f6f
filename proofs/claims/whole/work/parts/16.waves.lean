def zXx (l : Launch) (c : Code) : Prop := l.stackTraces = false ∧ (∀ x ∈ c.exceptionTable.toList, False)
def zXpost (G : zLA) (sz : Nat) (out : (Option Value × zSt) ⊕ String) : Array Value → State → Outcome → State → Prop := fun a st oc t => ∃ (ov : Option Value) (σ' : zSt), out = .inl (ov, σ') ∧ zR G sz ov σ' a st oc t
def zXC (G : zLA) (sz : Nat) (out : (Option Value × zSt) ⊕ String) (σ0 : zSt) : String → State → State → Prop := fun E st t => out = .inr E ∧ va_P (zD G) zcl (zwd G σ0) t.heap ∧ va_F (zA G sz) st t
/-- a method that answers or throws; a throw leaves the world as it was -/
def zX (l : Launch) (G : zLA) (y : MethodName) (ws : List Cond) (rm : Room) (as : List Value) (σ : zSt) (out : (Option Value × zSt) ⊕ String) : Prop :=
  ∀ sz : Nat, vx_Met l y ws rm (zPre G as σ sz) (zXpost G sz out) (zXC G sz out σ) rm.cells rm.slots (zA G sz)
abbrev zXQ (G : zLA) (below : List Frame) (args : Array Value) (s : State) (rm : Room) (out : (Option Value × zSt) ⊕ String) (σ0 : zSt) : State → Prop := vx_MQ below (zXpost G s.heap.size out) (zXC G s.heap.size out σ0) args s rm.cells rm.slots (zA G s.heap.size)
/-- q of class E is on its way, at pc, with these locals, the world at σ -/
def zWX (G : zLA) (p : Program) (l : Launch) (e : Env) (R : Room) (s : State) (m : MethodId) (args : Array Value) (below : List Frame) (meth : Method) (c : Code) (nL cells slots : Nat) (Q : State → Prop) (pc : Nat) (lv : List (Nat × Value)) (st : List Value) (σ : zSt) (E : String) : Prop :=
  ∀ (ls : Array Slot) (H : Heap) (locs : List Loc) (q : Addr) (ce : Cell), lv_has ls nL lv → va_P (zD G) zcl (zwd G σ) H → va_D (zA G s.heap.size) (zwd G σ) → va_S (zA G s.heap.size) s.heap H locs → H[q]? = some ce → ce.vm = .none → s.vm.findClass E = some ce.cls → vx_W p l e R s m args below meth c H locs cells slots Q (F0 m pc ls st) q
section ZX
variable {G : zLA} {p : Program} {l : Launch} {e : Env} {R : Room} {s : State} {m : MethodId} {args : Array Value} {below : List Frame} {meth : Method} {c : Code} {cells slots : Nat} {Q : State → Prop} {own : String} {cc : ByteArray} {nL : Nat} {ret : Option FieldType} {pc : Nat} {lv : List (Nat × Value)} {st : List Value} {σ : zSt}
theorem z_ofX {y : MethodName} {b : ByteArray} {ml : Nat} {rt : Option FieldType} {rm : Room} {as : List Value} {out : (Option Value × zSt) ⊕ String} (hy : plainName y.cls = true) (hcl : y.cls = own) (hlv : lv_args 0 as = lv) (hsz : (lg_sl as).length ≤ ml)
    (body : ∀ (p : Program) (e : Env) (s : State) (m : MethodId) (args : Array Value) (below : List Frame) (meth : Method) (c : Code), zCx G p s m args meth c own b ml rt → (∀ x ∈ c.exceptionTable.toList, False) → zWV G p l e rm s m args below meth c ml 0 0 (zXQ G below args s rm out σ) 0 lv [] σ) : zX l G y (zws y b ml rt) rm as σ out := by
  intro sz
  refine vx_ofW (cc := b) (maxL := ml) (ret := rt) hy rfl ?_
  intro p e s m args below meth c s₁ B hml hX hv
  obtain ⟨rfl, hsz0, hP, hK, hD0, hN, hF, hLk⟩ := hv
  subst hsz0
  have hts := atoms_spec (ws := zws y b ml rt) B.pre
  have hown : s.vm.findClass own = some m.cls := by rw [← hcl]; exact findClass_of_methodNamed B.named
  have hl := lv_entry as (n := ml) hsz
  rw [lg_entry_eq]
  subst hlv
  exact body p e s m _ below meth c ⟨B.exec, B.bytes, hml, B.returns, B.notSynchronized, hown, fun w hw => hts w (List.mem_cons_of_mem _ hw), hN, hK, hF, hLk⟩ hX _ _ [] hl hP (zD_A hD0) va_S.rf
theorem z_xret {rm : Room} {out : (Option Value × zSt) ⊕ String} {ov : Option Value} {σ' σ0 : zSt} (h : out = .inl (ov, σ')) (k : zWV G p l e R s m args below meth c nL cells slots (zQ G below args s rm ov σ') pc lv st σ) : zWV G p l e R s m args below meth c nL cells slots (zXQ G below args s rm out σ0) pc lv st σ := by
  intro ls H locs hl hP hD hS
  refine vx_ret ?_
  intro T hT X
  obtain ⟨t, a, o, h1, h2, h3, h4⟩ := k ls H locs hl hP hD hS T hT X
  exact ⟨t, a, o, h1, h2, ⟨ov, σ', h, h3⟩, h4⟩
theorem z_backX {H : Heap} {locs : List Loc} {ls : Array Slot} {rest st0 : List Value} {rm : Room} {out : (Option Value × zSt) ⊕ String} {a : Array Value} (hr : vx_Run p l e R s m args below meth c H locs cells slots rm.cells rm.slots (F0 m pc ls st0) rest (zXpost G H.size out a) (zXC G H.size out σ) (zA G H.size)) (hS : va_S (zA G s.heap.size) s.heap H locs) (hl : lv_has ls nL lv) (hD : va_D (zA G s.heap.size) (zwd G σ))
    (kx : ∀ E : String, out = .inr E → zWX G p l e R s m args below meth c nL (cells + rm.cells) (slots + rm.slots) Q pc lv rest σ E)
    (kk : ∀ (ov : Option Value) (σ' : zSt), out = .inl (ov, σ') → zWV G p l e R s m args below meth c nL (cells + rm.cells) (slots + rm.slots) Q (pc + 3) lv (ov.toList ++ rest) σ') : W p l e R s m args below meth c H locs cells slots Q (F0 m pc ls st0) := by
  have hA := zA_forall hS
  intro T hT X
  rcases hr T hT X with ⟨v, st₀, t, T', L, h0, X', hL, e1, e2, ⟨ov, σ', ho, ⟨hv, hb⟩, hF⟩, stp⟩ | ⟨q, st₀, t, T', L, E, ce, h0, X', hL, e1, e2, ⟨ho, hb, hF⟩, hce, hcv, hcl, stp⟩
  · cases hv
    obtain ⟨k1, k2, k3⟩ := vx_keep h0 e1 hS (fun q _ h => hA q h) hA hL hF
    obtain ⟨t2, a1, b1⟩ := kk _ σ' ho ls T'.heap (locs ++ L) hl (by rw [e1]; exact hb) (zD_any hD) k3 T' rfl X'
    exact ⟨t2, stp t2 a1, b1⟩
  · obtain ⟨k1, k2, k3⟩ := vx_keep h0 e1 hS (fun q _ h => hA q h) hA hL hF
    obtain ⟨t2, a1, b1⟩ := kx E ho ls T'.heap (locs ++ L) q ce hl (by rw [e1]; exact hb) hD k3 (by rw [e1]; exact hce) hcv hcl T' rfl X'
    exact ⟨t2, stp.trans a1, b1⟩
theorem z_callXV (C : zCx G p s m args meth c own cc nL ret) {index n ci g o : Nat} {Cn : String} {T : u_T} {N : Nat} {y : MethodName} {b : ByteArray} {ml : Nat} {rt : Option FieldType} {rm : Room} {as rest : List Value} {out : (Option Value × zSt) ⊕ String} {fs : List Value} (hL : zLV own index Cn y b ml rt n) (hc : zcl[ci]? = some (Cn, T, N)) (M : zX l G y (zws y b ml rt) rm (.ref (zad G g o) :: as) σ out) (hlive : (g, o) ∈ zL G) (he : zct G σ g o = .inr (ci, fs)) (hn : as.length = n) (hst : st = as.reverse ++ .ref (zad G g o) :: rest) (hrest : (rest.map fun v => v.category).sum ≤ 8) (hR : rm.frames + 1 ≤ R.frames ∧ 8 + (ml + 11) + rm.locals ≤ R.locals) (hcs : cells + rm.cells ≤ R.cells ∧ slots + rm.slots ≤ R.slots) (d : decode cc pc = .ok (.invokevirtual index, 3))
    (kx : ∀ E : String, out = .inr E → zWX G p l e R s m args below meth c nL (cells + rm.cells) (slots + rm.slots) Q pc lv rest σ E)
    (kk : ∀ (ov : Option Value) (σ' : zSt), out = .inl (ov, σ') → zWV G p l e R s m args below meth c nL (cells + rm.cells) (slots + rm.slots) Q (pc + 3) lv (ov.toList ++ rest) σ') : zWV G p l e R s m args below meth c nL cells slots Q pc lv st σ := by
  subst hst
  intro ls H locs hl hP hD hS
  obtain ⟨q, hq⟩ := zin hlive
  obtain ⟨h1, h2, h3, h4, h5, h6, h7⟩ := hL
  exact z_backX (vx_runV (As := as) (rest := rest) ⟨C.x, C.b, C.n, C.o, C.t⟩ (M H.size) (cwV n C.t (by unfold wsV; exact zgoodA (fun w hw => by simp only [List.mem_cons, List.not_mem_nil, or_false] at hw; rcases hw with rfl | rfl | rfl | rfl <;> assumption) h5) rfl rfl rfl ⟨h6, h7⟩ hR) ⟨zPre.blind, va_recv C.K hP hc ((zwd_at G σ hq).trans (by rw [he])), zPre.of _ C.K C.w C.F C.L hP hD hS⟩ rfl hn hl.1 rfl (lv_room hrest) d hcs) hS hl hD kx kk
theorem z_callXS (C : zCx G p s m args meth c own cc nL ret) {index n : Nat} {y : MethodName} {b : ByteArray} {ml : Nat} {rt : Option FieldType} {rm : Room} {as rest : List Value} {out : (Option Value × zSt) ⊕ String} (hL : zLS own index y b ml rt n) (M : zX l G y (zws y b ml rt) rm as σ out) (hn : as.length = n) (hst : st = as.reverse ++ rest) (hrest : (rest.map fun v => v.category).sum ≤ 8) (hR : rm.frames + 1 ≤ R.frames ∧ 8 + (ml + 11) + rm.locals ≤ R.locals) (hcs : cells + rm.cells ≤ R.cells ∧ slots + rm.slots ≤ R.slots) (d : decode cc pc = .ok (.invokestatic index, 3))
    (kx : ∀ E : String, out = .inr E → zWX G p l e R s m args below meth c nL (cells + rm.cells) (slots + rm.slots) Q pc lv rest σ E)
    (kk : ∀ (ov : Option Value) (σ' : zSt), out = .inl (ov, σ') → zWV G p l e R s m args below meth c nL (cells + rm.cells) (slots + rm.slots) Q (pc + 3) lv (ov.toList ++ rest) σ') : zWV G p l e R s m args below meth c nL cells slots Q pc lv st σ := by
  subst hst
  intro ls H locs hl hP hD hS
  obtain ⟨h1, h2, h3, h4, h7⟩ := hL
  exact z_backX (vx_runS (As := as) (rest := rest) ⟨C.x, C.b, C.n, C.o, C.t⟩ (M H.size) (va_cwS n C.t (by unfold va_wsS; exact zgoodA (fun w hw => by simp only [List.mem_cons, List.not_mem_nil, or_false] at hw; rcases hw with rfl | rfl | rfl <;> assumption) h4) rfl rfl rfl h7 hR) ⟨zPre.blind, zPre.of _ C.K C.w C.F C.L hP hD hS⟩ rfl hn hl.1 rfl (lv_room hrest) d hcs) hS hl hD kx kk
theorem z_out (C : zCx G p s m args meth c own cc nL ret) (X : zXx l c) {rm : Room} {out : (Option Value × zSt) ⊕ String} {E : String} (ho : out = .inr E) (hc : cells ≤ rm.cells) (hs : slots ≤ rm.slots) : zWX G p l e R s m args below meth c nL cells slots (zXQ G below args s rm out σ) pc lv st σ E := by
  intro ls H locs q ce hl hP hD hS hq hv hcl
  exact vx_out (fun x hx => (X.2 x hx).elim) C.k hq hv hcl (fun t ht _ => ⟨ho, by rw [ht]; exact hP, hS.F ht⟩) hS.2.2 hc hs
theorem z_cXVv (C : zCx G p s m args meth c own cc nL ret) {index n ci g o : Nat} {Cn : String} {T : u_T} {N : Nat} {y : MethodName} {b : ByteArray} {ml : Nat} {rt : Option FieldType} {rm : Room} {as rest : List Value} {σ' : zSt} {fs : List Value} (hL : zLV own index Cn y b ml rt n) (hc : zcl[ci]? = some (Cn, T, N)) (M : zX l G y (zws y b ml rt) rm (.ref (zad G g o) :: as) σ (.inl (none, σ'))) (hlive : (g, o) ∈ zL G) (he : zct G σ g o = .inr (ci, fs)) (hn : as.length = n) (hst : st = as.reverse ++ .ref (zad G g o) :: rest) (hrest : (rest.map fun v => v.category).sum ≤ 8) (hR : rm.frames + 1 ≤ R.frames ∧ 8 + (ml + 11) + rm.locals ≤ R.locals) (hcs : cells + rm.cells ≤ R.cells ∧ slots + rm.slots ≤ R.slots) (d : decode cc pc = .ok (.invokevirtual index, 3))
    (kk : zWV G p l e R s m args below meth c nL (cells + rm.cells) (slots + rm.slots) Q (pc + 3) lv rest σ') : zWV G p l e R s m args below meth c nL cells slots Q pc lv st σ :=
  z_callXV C hL hc M hlive he hn hst hrest hR hcs d (fun _ h => by cases h) (fun _ _ h => by cases h; exact kk)
theorem z_tXVv (C : zCx G p s m args meth c own cc nL ret) {index n ci g o : Nat} {Cn : String} {T : u_T} {N : Nat} {y : MethodName} {b : ByteArray} {ml : Nat} {rt : Option FieldType} {rm rm0 : Room} {as rest : List Value} {E : String} {out : (Option Value × zSt) ⊕ String} {fs : List Value} (hL : zLV own index Cn y b ml rt n) (hc : zcl[ci]? = some (Cn, T, N)) (M : zX l G y (zws y b ml rt) rm (.ref (zad G g o) :: as) σ (.inr E)) (hlive : (g, o) ∈ zL G) (he : zct G σ g o = .inr (ci, fs)) (hn : as.length = n) (hst : st = as.reverse ++ .ref (zad G g o) :: rest) (hrest : (rest.map fun v => v.category).sum ≤ 8) (hR : rm.frames + 1 ≤ R.frames ∧ 8 + (ml + 11) + rm.locals ≤ R.locals) (hcs : cells + rm.cells ≤ R.cells ∧ slots + rm.slots ≤ R.slots) (d : decode cc pc = .ok (.invokevirtual index, 3)) (X : zXx l c) (ho : out = .inr E) (h1 : cells + rm.cells ≤ rm0.cells) (h2 : slots + rm.slots ≤ rm0.slots) : zWV G p l e R s m args below meth c nL cells slots (zXQ G below args s rm0 out σ) pc lv st σ :=
  z_callXV C hL hc M hlive he hn hst hrest hR hcs d (fun _ h => by cases h; exact z_out C X ho h1 h2) (fun _ _ h => by cases h)
theorem z_cXSv (C : zCx G p s m args meth c own cc nL ret) {index n : Nat} {y : MethodName} {b : ByteArray} {ml : Nat} {rt : Option FieldType} {rm : Room} {as rest : List Value} {σ' : zSt} (hL : zLS own index y b ml rt n) (M : zX l G y (zws y b ml rt) rm as σ (.inl (none, σ'))) (hn : as.length = n) (hst : st = as.reverse ++ rest) (hrest : (rest.map fun v => v.category).sum ≤ 8) (hR : rm.frames + 1 ≤ R.frames ∧ 8 + (ml + 11) + rm.locals ≤ R.locals) (hcs : cells + rm.cells ≤ R.cells ∧ slots + rm.slots ≤ R.slots) (d : decode cc pc = .ok (.invokestatic index, 3))
    (kk : zWV G p l e R s m args below meth c nL (cells + rm.cells) (slots + rm.slots) Q (pc + 3) lv rest σ') : zWV G p l e R s m args below meth c nL cells slots Q pc lv st σ :=
  z_callXS C hL M hn hst hrest hR hcs d (fun _ h => by cases h) (fun _ _ h => by cases h; exact kk)
theorem z_tXSv (C : zCx G p s m args meth c own cc nL ret) {index n : Nat} {y : MethodName} {b : ByteArray} {ml : Nat} {rt : Option FieldType} {rm rm0 : Room} {as rest : List Value} {E : String} {out : (Option Value × zSt) ⊕ String} (hL : zLS own index y b ml rt n) (M : zX l G y (zws y b ml rt) rm as σ (.inr E)) (hn : as.length = n) (hst : st = as.reverse ++ rest) (hrest : (rest.map fun v => v.category).sum ≤ 8) (hR : rm.frames + 1 ≤ R.frames ∧ 8 + (ml + 11) + rm.locals ≤ R.locals) (hcs : cells + rm.cells ≤ R.cells ∧ slots + rm.slots ≤ R.slots) (d : decode cc pc = .ok (.invokestatic index, 3)) (X : zXx l c) (ho : out = .inr E) (h1 : cells + rm.cells ≤ rm0.cells) (h2 : slots + rm.slots ≤ rm0.slots) : zWV G p l e R s m args below meth c nL cells slots (zXQ G below args s rm0 out σ) pc lv st σ :=
  z_callXS C hL M hn hst hrest hR hcs d (fun _ h => by cases h; exact z_out C X ho h1 h2) (fun _ _ h => by cases h)
def znm : List String := ["java/lang/RuntimeException", "java/lang/Exception"]
theorem zat_of {ic : Nat} {E : String} (h : ∀ w ∈ vx_atS "VillageWaves" ic E znm, w ∈ lw_tbl) (hg : (vx_atS "VillageWaves" ic E znm).all (fun w => goodWord w || zisN w) = true) : ∀ w ∈ vx_atS "VillageWaves" ic E znm, w ∈ zGW ∨ w ∈ zNW := by
  intro w hw
  have h1 := List.all_eq_true.mp hg w hw
  rcases (Bool.or_eq_true _ _).mp h1 with q | q
  · exact Or.inl (List.mem_filter.mpr ⟨h w hw, q⟩)
  · exact Or.inr (List.mem_filter.mpr ⟨h w hw, q⟩)
theorem zth_of (C : zCx G p s m args meth c "VillageWaves" cc nL ret) (X : zXx l c) {E text : String} {ik ist ic : Nat} {rm : Room} {out : (Option Value × zSt) ⊕ String} (k : Nat) (hk21 : k < 21) (ho1 : zs1 k = "VillageWaves") (ho2 : zs2 k = ist) (ho3 : zs3 k = text) (hcls : Bundle.fit E = true) (hk : Cond.classLink "VillageWaves" ik E ∈ zGW) (hini : Cond.initialized E ∈ zGW) (hat : ∀ w ∈ vx_atS "VillageWaves" ic E znm, w ∈ zGW ∨ w ∈ zNW) (hgood : ∀ w ∈ Cond.classLink "VillageWaves" ik E :: Cond.initialized E :: vx_atS "VillageWaves" ic E znm, vx_ot w = true) (ho : out = .inr E)
    (d0 : decode cc pc = .ok (.new ik, 3)) (d3 : decode cc (pc + 3) = .ok (.dup, 1)) (d4 : decode cc (pc + 4) = .ok (.ldc ist, 2)) (d6 : decode cc (pc + 6) = .ok (.invokespecial ic, 3)) (d9 : decode cc (pc + 9) = .ok (.athrow, 1))
    (r1 : 6 ≤ R.frames) (r2 : 90 ≤ R.locals) (r3 : cells + 1 ≤ R.cells) (r4 : slots + 6 ≤ R.slots) (r5 : cells + 1 ≤ rm.cells) (r6 : slots + 6 ≤ rm.slots) : zWV G p l e R s m args below meth c nL cells slots (zXQ G below args s rm out σ) pc lv [] σ := by
  intro ls H locs hl hP hD hS
  subst ho2; subst ho3
  exact vx_throwS C.x C.b X.1 (names := znm) C.o hcls (by decide +kernel) (C.t _ hk) (C.t _ hini) (by have h := C.F.2.2.1 k hk21; rw [ho1] at h; exact h) (fun w hw => (hat w hw).elim (C.t w) (fun h => va_Nw.use (zNW_on h) (C.w w h))) hgood C.F.2.2.2.1 C.F.2.2.2.2.1 hS (hl.1.trans C.n.symm) d0 d3 d4 d6 d9 (fun x hx => (X.2 x hx).elim) (by show 2 + 3 < _; omega) (by show 0 + (13 * (2 + 1) + 43) ≤ _; omega) r3 r4 C.k (fun t hA h1 h2 => ⟨ho, hP.kept (fun k q hk => h2 q.1 (hP k q hk).lt), Nat.le_trans hS.1 h1, fun q q1 q2 => (h2 q (Nat.lt_of_lt_of_le q1 hS.1)).trans (hS.2.1 q q1 q2)⟩) hS.2.2 r5 r6
theorem zthw_of (C : zCx G p s m args meth c "VillageWaves" cc nL ret) (X : zXx l c) {E text : String} {ik ist ic : Nat} {rm : Room} {out : (Option Value × zSt) ⊕ String} (k : Nat) (hk21 : k < 21) (ho1 : zs1 k = "VillageWaves") (ho2 : zs2 k = ist) (ho3 : zs3 k = text) (hcls : Bundle.fit E = true) (hk : Cond.classLink "VillageWaves" ik E ∈ zGW) (hini : Cond.initialized E ∈ zGW) (hat : ∀ w ∈ vx_atS "VillageWaves" ic E znm, w ∈ zGW ∨ w ∈ zNW) (hgood : ∀ w ∈ Cond.classLink "VillageWaves" ik E :: Cond.initialized E :: vx_atS "VillageWaves" ic E znm, vx_ot w = true) (ho : out = .inr E)
    (d0 : decode cc pc = .ok (.new ik, 3)) (d3 : decode cc (pc + 3) = .ok (.dup, 1)) (d4 : decode cc (pc + 4) = .ok (.ldc_w ist, 3)) (d6 : decode cc (pc + 7) = .ok (.invokespecial ic, 3)) (d9 : decode cc (pc + 10) = .ok (.athrow, 1))
    (r1 : 6 ≤ R.frames) (r2 : 90 ≤ R.locals) (r3 : cells + 1 ≤ R.cells) (r4 : slots + 6 ≤ R.slots) (r5 : cells + 1 ≤ rm.cells) (r6 : slots + 6 ≤ rm.slots) : zWV G p l e R s m args below meth c nL cells slots (zXQ G below args s rm out σ) pc lv [] σ := by
  intro ls H locs hl hP hD hS
  subst ho2; subst ho3
  exact vx_throwSW C.x C.b X.1 (names := znm) C.o hcls (by decide +kernel) (C.t _ hk) (C.t _ hini) (by have h := C.F.2.2.1 k hk21; rw [ho1] at h; exact h) (fun w hw => (hat w hw).elim (C.t w) (fun h => va_Nw.use (zNW_on h) (C.w w h))) hgood C.F.2.2.2.1 C.F.2.2.2.2.1 hS (hl.1.trans C.n.symm) d0 d3 d4 d6 d9 (fun x hx => (X.2 x hx).elim) (by show 2 + 3 < _; omega) (by show 0 + (13 * (2 + 1) + 43) ≤ _; omega) r3 r4 C.k (fun t hA h1 h2 => ⟨ho, hP.kept (fun k q hk => h2 q.1 (hP k q hk).lt), Nat.le_trans hS.1 h1, fun q q1 q2 => (h2 q (Nat.lt_of_lt_of_le q1 hS.1)).trans (hS.2.1 q q1 q2)⟩) hS.2.2 r5 r6
end ZX
def cv_pu (out : Unit ⊕ String) (σ : zSt) : (Option Value × zSt) ⊕ String := match out with | .inl _ => .inl (none, σ) | .inr E => .inr E
def cv_pi (out : Int32 ⊕ String) (σ : zSt) : (Option Value × zSt) ⊕ String := match out with | .inl r => .inl (some (.int r), σ) | .inr E => .inr E
def cv_pd (out : UInt64 ⊕ String) (σ : zSt) : (Option Value × zSt) ⊕ String := match out with | .inl r => .inl (some (.double r), σ) | .inr E => .inr E
def cv_wu (out : zSt ⊕ String) (_ : zSt) : (Option Value × zSt) ⊕ String := match out with | .inl σ' => .inl (none, σ') | .inr E => .inr E
def cv_wi (out : (Int32 × zSt) ⊕ String) (_ : zSt) : (Option Value × zSt) ⊕ String := match out with | .inl r => .inl (some (.int r.1), r.2) | .inr E => .inr E
def cv_wd (out : (UInt64 × zSt) ⊕ String) (_ : zSt) : (Option Value × zSt) ⊕ String := match out with | .inl r => .inl (some (.double r.1), r.2) | .inr E => .inr E
theorem zat_49 : ∀ w ∈ vx_atS "VillageWaves" 49 "java/lang/IllegalStateException" znm, w ∈ zGW ∨ w ∈ zNW := zat_of (by decide +kernel) (by decide +kernel)
theorem zag_49 : ∀ w ∈ Cond.classLink "VillageWaves" 45 "java/lang/IllegalStateException" :: Cond.initialized "java/lang/IllegalStateException" :: vx_atS "VillageWaves" 49 "java/lang/IllegalStateException" znm, vx_ot w = true := by decide +kernel
theorem zth_49_47 {G : zLA} {p : Program} {l : Launch} {e : Env} {R : Room} {s : State} {m : MethodId} {args : Array Value} {below : List Frame} {meth : Method} {c : Code} {cells slots : Nat} {cc : ByteArray} {nL : Nat} {ret : Option FieldType} {pc : Nat} {lv : List (Nat × Value)} {σ : zSt} (C : zCx G p s m args meth c "VillageWaves" cc nL ret) (X : zXx l c) {rm : Room} {out : (Option Value × zSt) ⊕ String} (ho : out = .inr "java/lang/IllegalStateException") (d0 : decode cc pc = .ok (.new 45, 3)) (d3 : decode cc (pc + 3) = .ok (.dup, 1)) (d4 : decode cc (pc + 4) = .ok (.ldc 47, 2)) (d6 : decode cc (pc + 6) = .ok (.invokespecial 49, 3)) (d9 : decode cc (pc + 9) = .ok (.athrow, 1)) (r1 : 6 ≤ R.frames) (r2 : 90 ≤ R.locals) (r3 : cells + 1 ≤ R.cells) (r4 : slots + 6 ≤ R.slots) (r5 : cells + 1 ≤ rm.cells) (r6 : slots + 6 ≤ rm.slots) : zWV G p l e R s m args below meth c nL cells slots (zXQ G below args s rm out σ) pc lv [] σ := zth_of C X 12 (by decide) rfl rfl rfl (by decide +kernel) (zgw 765 (by decide +kernel) rfl) (zgw 109 (by decide +kernel) rfl) zat_49 zag_49 ho d0 d3 d4 d6 d9 r1 r2 r3 r4 r5 r6
theorem zat_103 : ∀ w ∈ vx_atS "VillageWaves" 103 "java/lang/IllegalArgumentException" znm, w ∈ zGW ∨ w ∈ zNW := zat_of (by decide +kernel) (by decide +kernel)
theorem zag_103 : ∀ w ∈ Cond.classLink "VillageWaves" 99 "java/lang/IllegalArgumentException" :: Cond.initialized "java/lang/IllegalArgumentException" :: vx_atS "VillageWaves" 103 "java/lang/IllegalArgumentException" znm, vx_ot w = true := by decide +kernel
theorem zth_103_349 {G : zLA} {p : Program} {l : Launch} {e : Env} {R : Room} {s : State} {m : MethodId} {args : Array Value} {below : List Frame} {meth : Method} {c : Code} {cells slots : Nat} {cc : ByteArray} {nL : Nat} {ret : Option FieldType} {pc : Nat} {lv : List (Nat × Value)} {σ : zSt} (C : zCx G p s m args meth c "VillageWaves" cc nL ret) (X : zXx l c) {rm : Room} {out : (Option Value × zSt) ⊕ String} (ho : out = .inr "java/lang/IllegalArgumentException") (d0 : decode cc pc = .ok (.new 99, 3)) (d3 : decode cc (pc + 3) = .ok (.dup, 1)) (d4 : decode cc (pc + 4) = .ok (.ldc_w 349, 3)) (d6 : decode cc (pc + 7) = .ok (.invokespecial 103, 3)) (d9 : decode cc (pc + 10) = .ok (.athrow, 1)) (r1 : 6 ≤ R.frames) (r2 : 90 ≤ R.locals) (r3 : cells + 1 ≤ R.cells) (r4 : slots + 6 ≤ R.slots) (r5 : cells + 1 ≤ rm.cells) (r6 : slots + 6 ≤ rm.slots) : zWV G p l e R s m args below meth c nL cells slots (zXQ G below args s rm out σ) pc lv [] σ := zthw_of C X 13 (by decide) rfl rfl rfl (by decide +kernel) (zgw 848 (by decide +kernel) rfl) (zgw 110 (by decide +kernel) rfl) zat_103 zag_103 ho d0 d3 d4 d6 d9 r1 r2 r3 r4 r5 r6
theorem zth_49_87 {G : zLA} {p : Program} {l : Launch} {e : Env} {R : Room} {s : State} {m : MethodId} {args : Array Value} {below : List Frame} {meth : Method} {c : Code} {cells slots : Nat} {cc : ByteArray} {nL : Nat} {ret : Option FieldType} {pc : Nat} {lv : List (Nat × Value)} {σ : zSt} (C : zCx G p s m args meth c "VillageWaves" cc nL ret) (X : zXx l c) {rm : Room} {out : (Option Value × zSt) ⊕ String} (ho : out = .inr "java/lang/IllegalStateException") (d0 : decode cc pc = .ok (.new 45, 3)) (d3 : decode cc (pc + 3) = .ok (.dup, 1)) (d4 : decode cc (pc + 4) = .ok (.ldc 87, 2)) (d6 : decode cc (pc + 6) = .ok (.invokespecial 49, 3)) (d9 : decode cc (pc + 9) = .ok (.athrow, 1)) (r1 : 6 ≤ R.frames) (r2 : 90 ≤ R.locals) (r3 : cells + 1 ≤ R.cells) (r4 : slots + 6 ≤ R.slots) (r5 : cells + 1 ≤ rm.cells) (r6 : slots + 6 ≤ rm.slots) : zWV G p l e R s m args below meth c nL cells slots (zXQ G below args s rm out σ) pc lv [] σ := zth_of C X 14 (by decide) rfl rfl rfl (by decide +kernel) (zgw 765 (by decide +kernel) rfl) (zgw 109 (by decide +kernel) rfl) zat_49 zag_49 ho d0 d3 d4 d6 d9 r1 r2 r3 r4 r5 r6
theorem zat_226 : ∀ w ∈ vx_atS "VillageWaves" 226 "java/lang/IndexOutOfBoundsException" znm, w ∈ zGW ∨ w ∈ zNW := zat_of (by decide +kernel) (by decide +kernel)
theorem zag_226 : ∀ w ∈ Cond.classLink "VillageWaves" 222 "java/lang/IndexOutOfBoundsException" :: Cond.initialized "java/lang/IndexOutOfBoundsException" :: vx_atS "VillageWaves" 226 "java/lang/IndexOutOfBoundsException" znm, vx_ot w = true := by decide +kernel
theorem zth_226_345 {G : zLA} {p : Program} {l : Launch} {e : Env} {R : Room} {s : State} {m : MethodId} {args : Array Value} {below : List Frame} {meth : Method} {c : Code} {cells slots : Nat} {cc : ByteArray} {nL : Nat} {ret : Option FieldType} {pc : Nat} {lv : List (Nat × Value)} {σ : zSt} (C : zCx G p s m args meth c "VillageWaves" cc nL ret) (X : zXx l c) {rm : Room} {out : (Option Value × zSt) ⊕ String} (ho : out = .inr "java/lang/IndexOutOfBoundsException") (d0 : decode cc pc = .ok (.new 222, 3)) (d3 : decode cc (pc + 3) = .ok (.dup, 1)) (d4 : decode cc (pc + 4) = .ok (.ldc_w 345, 3)) (d6 : decode cc (pc + 7) = .ok (.invokespecial 226, 3)) (d9 : decode cc (pc + 10) = .ok (.athrow, 1)) (r1 : 6 ≤ R.frames) (r2 : 90 ≤ R.locals) (r3 : cells + 1 ≤ R.cells) (r4 : slots + 6 ≤ R.slots) (r5 : cells + 1 ≤ rm.cells) (r6 : slots + 6 ≤ rm.slots) : zWV G p l e R s m args below meth c nL cells slots (zXQ G below args s rm out σ) pc lv [] σ := zthw_of C X 15 (by decide) rfl rfl rfl (by decide +kernel) (zgw 886 (by decide +kernel) rfl) (zgw 116 (by decide +kernel) rfl) zat_226 zag_226 ho d0 d3 d4 d6 d9 r1 r2 r3 r4 r5 r6
theorem zth_103_101 {G : zLA} {p : Program} {l : Launch} {e : Env} {R : Room} {s : State} {m : MethodId} {args : Array Value} {below : List Frame} {meth : Method} {c : Code} {cells slots : Nat} {cc : ByteArray} {nL : Nat} {ret : Option FieldType} {pc : Nat} {lv : List (Nat × Value)} {σ : zSt} (C : zCx G p s m args meth c "VillageWaves" cc nL ret) (X : zXx l c) {rm : Room} {out : (Option Value × zSt) ⊕ String} (ho : out = .inr "java/lang/IllegalArgumentException") (d0 : decode cc pc = .ok (.new 99, 3)) (d3 : decode cc (pc + 3) = .ok (.dup, 1)) (d4 : decode cc (pc + 4) = .ok (.ldc 101, 2)) (d6 : decode cc (pc + 6) = .ok (.invokespecial 103, 3)) (d9 : decode cc (pc + 9) = .ok (.athrow, 1)) (r1 : 6 ≤ R.frames) (r2 : 90 ≤ R.locals) (r3 : cells + 1 ≤ R.cells) (r4 : slots + 6 ≤ R.slots) (r5 : cells + 1 ≤ rm.cells) (r6 : slots + 6 ≤ rm.slots) : zWV G p l e R s m args below meth c nL cells slots (zXQ G below args s rm out σ) pc lv [] σ := zth_of C X 16 (by decide) rfl rfl rfl (by decide +kernel) (zgw 848 (by decide +kernel) rfl) (zgw 110 (by decide +kernel) rfl) zat_103 zag_103 ho d0 d3 d4 d6 d9 r1 r2 r3 r4 r5 r6
theorem zth_226_224 {G : zLA} {p : Program} {l : Launch} {e : Env} {R : Room} {s : State} {m : MethodId} {args : Array Value} {below : List Frame} {meth : Method} {c : Code} {cells slots : Nat} {cc : ByteArray} {nL : Nat} {ret : Option FieldType} {pc : Nat} {lv : List (Nat × Value)} {σ : zSt} (C : zCx G p s m args meth c "VillageWaves" cc nL ret) (X : zXx l c) {rm : Room} {out : (Option Value × zSt) ⊕ String} (ho : out = .inr "java/lang/IndexOutOfBoundsException") (d0 : decode cc pc = .ok (.new 222, 3)) (d3 : decode cc (pc + 3) = .ok (.dup, 1)) (d4 : decode cc (pc + 4) = .ok (.ldc 224, 2)) (d6 : decode cc (pc + 6) = .ok (.invokespecial 226, 3)) (d9 : decode cc (pc + 9) = .ok (.athrow, 1)) (r1 : 6 ≤ R.frames) (r2 : 90 ≤ R.locals) (r3 : cells + 1 ≤ R.cells) (r4 : slots + 6 ≤ R.slots) (r5 : cells + 1 ≤ rm.cells) (r6 : slots + 6 ≤ rm.slots) : zWV G p l e R s m args below meth c nL cells slots (zXQ G below args s rm out σ) pc lv [] σ := zth_of C X 17 (by decide) rfl rfl rfl (by decide +kernel) (zgw 886 (by decide +kernel) rfl) (zgw 116 (by decide +kernel) rfl) zat_226 zag_226 ho d0 d3 d4 d6 d9 r1 r2 r3 r4 r5 r6
theorem zth_226_347 {G : zLA} {p : Program} {l : Launch} {e : Env} {R : Room} {s : State} {m : MethodId} {args : Array Value} {below : List Frame} {meth : Method} {c : Code} {cells slots : Nat} {cc : ByteArray} {nL : Nat} {ret : Option FieldType} {pc : Nat} {lv : List (Nat × Value)} {σ : zSt} (C : zCx G p s m args meth c "VillageWaves" cc nL ret) (X : zXx l c) {rm : Room} {out : (Option Value × zSt) ⊕ String} (ho : out = .inr "java/lang/IndexOutOfBoundsException") (d0 : decode cc pc = .ok (.new 222, 3)) (d3 : decode cc (pc + 3) = .ok (.dup, 1)) (d4 : decode cc (pc + 4) = .ok (.ldc_w 347, 3)) (d6 : decode cc (pc + 7) = .ok (.invokespecial 226, 3)) (d9 : decode cc (pc + 10) = .ok (.athrow, 1)) (r1 : 6 ≤ R.frames) (r2 : 90 ≤ R.locals) (r3 : cells + 1 ≤ R.cells) (r4 : slots + 6 ≤ R.slots) (r5 : cells + 1 ≤ rm.cells) (r6 : slots + 6 ≤ rm.slots) : zWV G p l e R s m args below meth c nL cells slots (zXQ G below args s rm out σ) pc lv [] σ := zthw_of C X 18 (by decide) rfl rfl rfl (by decide +kernel) (zgw 886 (by decide +kernel) rfl) (zgw 116 (by decide +kernel) rfl) zat_226 zag_226 ho d0 d3 d4 d6 d9 r1 r2 r3 r4 r5 r6
theorem zth_103_280 {G : zLA} {p : Program} {l : Launch} {e : Env} {R : Room} {s : State} {m : MethodId} {args : Array Value} {below : List Frame} {meth : Method} {c : Code} {cells slots : Nat} {cc : ByteArray} {nL : Nat} {ret : Option FieldType} {pc : Nat} {lv : List (Nat × Value)} {σ : zSt} (C : zCx G p s m args meth c "VillageWaves" cc nL ret) (X : zXx l c) {rm : Room} {out : (Option Value × zSt) ⊕ String} (ho : out = .inr "java/lang/IllegalArgumentException") (d0 : decode cc pc = .ok (.new 99, 3)) (d3 : decode cc (pc + 3) = .ok (.dup, 1)) (d4 : decode cc (pc + 4) = .ok (.ldc_w 280, 3)) (d6 : decode cc (pc + 7) = .ok (.invokespecial 103, 3)) (d9 : decode cc (pc + 10) = .ok (.athrow, 1)) (r1 : 6 ≤ R.frames) (r2 : 90 ≤ R.locals) (r3 : cells + 1 ≤ R.cells) (r4 : slots + 6 ≤ R.slots) (r5 : cells + 1 ≤ rm.cells) (r6 : slots + 6 ≤ rm.slots) : zWV G p l e R s m args below meth c nL cells slots (zXQ G below args s rm out σ) pc lv [] σ := zthw_of C X 19 (by decide) rfl rfl rfl (by decide +kernel) (zgw 848 (by decide +kernel) rfl) (zgw 110 (by decide +kernel) rfl) zat_103 zag_103 ho d0 d3 d4 d6 d9 r1 r2 r3 r4 r5 r6
theorem zth_226_280 {G : zLA} {p : Program} {l : Launch} {e : Env} {R : Room} {s : State} {m : MethodId} {args : Array Value} {below : List Frame} {meth : Method} {c : Code} {cells slots : Nat} {cc : ByteArray} {nL : Nat} {ret : Option FieldType} {pc : Nat} {lv : List (Nat × Value)} {σ : zSt} (C : zCx G p s m args meth c "VillageWaves" cc nL ret) (X : zXx l c) {rm : Room} {out : (Option Value × zSt) ⊕ String} (ho : out = .inr "java/lang/IndexOutOfBoundsException") (d0 : decode cc pc = .ok (.new 222, 3)) (d3 : decode cc (pc + 3) = .ok (.dup, 1)) (d4 : decode cc (pc + 4) = .ok (.ldc_w 280, 3)) (d6 : decode cc (pc + 7) = .ok (.invokespecial 226, 3)) (d9 : decode cc (pc + 10) = .ok (.athrow, 1)) (r1 : 6 ≤ R.frames) (r2 : 90 ≤ R.locals) (r3 : cells + 1 ≤ R.cells) (r4 : slots + 6 ≤ R.slots) (r5 : cells + 1 ≤ rm.cells) (r6 : slots + 6 ≤ rm.slots) : zWV G p l e R s m args below meth c nL cells slots (zXQ G below args s rm out σ) pc lv [] σ := zthw_of C X 19 (by decide) rfl rfl rfl (by decide +kernel) (zgw 886 (by decide +kernel) rfl) (zgw 116 (by decide +kernel) rfl) zat_226 zag_226 ho d0 d3 d4 d6 d9 r1 r2 r3 r4 r5 r6
theorem zth_49_343 {G : zLA} {p : Program} {l : Launch} {e : Env} {R : Room} {s : State} {m : MethodId} {args : Array Value} {below : List Frame} {meth : Method} {c : Code} {cells slots : Nat} {cc : ByteArray} {nL : Nat} {ret : Option FieldType} {pc : Nat} {lv : List (Nat × Value)} {σ : zSt} (C : zCx G p s m args meth c "VillageWaves" cc nL ret) (X : zXx l c) {rm : Room} {out : (Option Value × zSt) ⊕ String} (ho : out = .inr "java/lang/IllegalStateException") (d0 : decode cc pc = .ok (.new 45, 3)) (d3 : decode cc (pc + 3) = .ok (.dup, 1)) (d4 : decode cc (pc + 4) = .ok (.ldc_w 343, 3)) (d6 : decode cc (pc + 7) = .ok (.invokespecial 49, 3)) (d9 : decode cc (pc + 10) = .ok (.athrow, 1)) (r1 : 6 ≤ R.frames) (r2 : 90 ≤ R.locals) (r3 : cells + 1 ≤ R.cells) (r4 : slots + 6 ≤ R.slots) (r5 : cells + 1 ≤ rm.cells) (r6 : slots + 6 ≤ rm.slots) : zWV G p l e R s m args below meth c nL cells slots (zXQ G below args s rm out σ) pc lv [] σ := zthw_of C X 20 (by decide) rfl rfl rfl (by decide +kernel) (zgw 765 (by decide +kernel) rfl) (zgw 109 (by decide +kernel) rfl) zat_49 zag_49 ho d0 d3 d4 d6 d9 r1 r2 r3 r4 r5 r6

abbrev rm_Waves_appendText : Room := { frames := 6, cells := 1, slots := 6, locals := 92 }
theorem d_Waves_appendText_0 : decode b_Waves_appendText 0 = .ok (.aload_n 0, 1) := by decide +kernel
theorem d_Waves_appendText_1 : decode b_Waves_appendText 1 = .ok (.getfield 32, 3) := by decide +kernel
theorem d_Waves_appendText_4 : decode b_Waves_appendText 4 = .ok (.getfield 36, 3) := by decide +kernel
theorem d_Waves_appendText_7 : decode b_Waves_appendText 7 = .ok (.astore_n 2, 1) := by decide +kernel
theorem d_Waves_appendText_8 : decode b_Waves_appendText 8 = .ok (.aload_n 2, 1) := by decide +kernel
theorem d_Waves_appendText_9 : decode b_Waves_appendText 9 = .ok (.getfield 40, 3) := by decide +kernel
theorem d_Waves_appendText_12 : decode b_Waves_appendText 12 = .ok (.iconst 4, 1) := by decide +kernel
theorem d_Waves_appendText_13 : decode b_Waves_appendText 13 = .ok (.iadd, 1) := by decide +kernel
theorem d_Waves_appendText_14 : decode b_Waves_appendText 14 = .ok (.sipush 700, 3) := by decide +kernel
theorem d_Waves_appendText_17 : decode b_Waves_appendText 17 = .ok (.if_icmp .le 13, 3) := by decide +kernel
theorem d_Waves_appendText_20 : decode b_Waves_appendText 20 = .ok (.new 45, 3) := by decide +kernel
theorem d_Waves_appendText_23 : decode b_Waves_appendText 23 = .ok (.dup, 1) := by decide +kernel
theorem d_Waves_appendText_24 : decode b_Waves_appendText 24 = .ok (.ldc 47, 2) := by decide +kernel
theorem d_Waves_appendText_26 : decode b_Waves_appendText 26 = .ok (.invokespecial 49, 3) := by decide +kernel
theorem d_Waves_appendText_29 : decode b_Waves_appendText 29 = .ok (.athrow, 1) := by decide +kernel
theorem d_Waves_appendText_30 : decode b_Waves_appendText 30 = .ok (.aload_n 2, 1) := by decide +kernel
theorem d_Waves_appendText_31 : decode b_Waves_appendText 31 = .ok (.iload_n 1, 1) := by decide +kernel
theorem d_Waves_appendText_32 : decode b_Waves_appendText 32 = .ok (.bipush 24, 2) := by decide +kernel
theorem d_Waves_appendText_34 : decode b_Waves_appendText 34 = .ok (.iushr, 1) := by decide +kernel
theorem d_Waves_appendText_35 : decode b_Waves_appendText 35 = .ok (.invokevirtual 52, 3) := by decide +kernel
theorem d_Waves_appendText_38 : decode b_Waves_appendText 38 = .ok (.aload_n 2, 1) := by decide +kernel
theorem d_Waves_appendText_39 : decode b_Waves_appendText 39 = .ok (.iload_n 1, 1) := by decide +kernel
theorem d_Waves_appendText_40 : decode b_Waves_appendText 40 = .ok (.bipush 16, 2) := by decide +kernel
theorem d_Waves_appendText_42 : decode b_Waves_appendText 42 = .ok (.iushr, 1) := by decide +kernel
theorem d_Waves_appendText_43 : decode b_Waves_appendText 43 = .ok (.invokevirtual 52, 3) := by decide +kernel
theorem d_Waves_appendText_46 : decode b_Waves_appendText 46 = .ok (.aload_n 2, 1) := by decide +kernel
theorem d_Waves_appendText_47 : decode b_Waves_appendText 47 = .ok (.iload_n 1, 1) := by decide +kernel
theorem d_Waves_appendText_48 : decode b_Waves_appendText 48 = .ok (.bipush 8, 2) := by decide +kernel
theorem d_Waves_appendText_50 : decode b_Waves_appendText 50 = .ok (.iushr, 1) := by decide +kernel
theorem d_Waves_appendText_51 : decode b_Waves_appendText 51 = .ok (.invokevirtual 52, 3) := by decide +kernel
theorem d_Waves_appendText_54 : decode b_Waves_appendText 54 = .ok (.aload_n 2, 1) := by decide +kernel
theorem d_Waves_appendText_55 : decode b_Waves_appendText 55 = .ok (.iload_n 1, 1) := by decide +kernel
theorem d_Waves_appendText_56 : decode b_Waves_appendText 56 = .ok (.invokevirtual 52, 3) := by decide +kernel
theorem d_Waves_appendText_59 : decode b_Waves_appendText 59 = .ok (.aload_n 2, 1) := by decide +kernel
theorem d_Waves_appendText_60 : decode b_Waves_appendText 60 = .ok (.getfield 40, 3) := by decide +kernel
theorem d_Waves_appendText_63 : decode b_Waves_appendText 63 = .ok (.ireturn, 1) := by decide +kernel
def F_Waves_appendText (a0 : Int32) (σ : zSt) : Option ((Int32 × zSt) ⊕ String) :=
  if ((σ.1 4 72 1) + (4 : Int32)) ≤ (700 : Int32) then ((F_Text_append ((a0.toUInt32 >>> ((24 : Int32).toUInt32 &&& Int32.toUInt32 31)).toInt32) σ).bind fun σ2 => (F_Text_append ((a0.toUInt32 >>> ((16 : Int32).toUInt32 &&& Int32.toUInt32 31)).toInt32) σ2).bind fun σ4 => (F_Text_append ((a0.toUInt32 >>> ((8 : Int32).toUInt32 &&& Int32.toUInt32 31)).toInt32) σ4).bind fun σ6 => (F_Text_append a0 σ6).bind fun σ8 => some (.inl ((σ8.1 4 72 1), σ8))) else some (.inr "java/lang/IllegalStateException")
set_option maxHeartbeats 4000000 in
set_option maxRecDepth 100000 in
theorem c_Waves_appendText {l : Launch} (hst : l.stackTraces = false) {G : zLA} (hx : zxl G) {a0 : Int32} {σ : zSt} {out : (Int32 × zSt) ⊕ String} (hf : F_Waves_appendText a0 σ = some out) : zX l G y_Waves_appendText (zws y_Waves_appendText b_Waves_appendText 3 (some .int)) rm_Waves_appendText [.ref (zad G 4 70), .int a0] σ (cv_wi out σ) := by
  refine z_ofX (own := "VillageWaves") (lv := [(0, .ref (zad G 4 70)), (1, .int a0)]) (by decide +kernel) rfl rfl (Nat.le_of_ble_eq_true rfl) (fun p e s m args below meth c C X0 => ?_)
  have X : zXx l c := ⟨hst, X0⟩
  rw [F_Waves_appendText] at hf
  refine z_aload_n C d_Waves_appendText_0 0 rfl rfl ?_
  refine gf_Waves_32 C (zx4 hx 70 rfl) rfl rfl d_Waves_appendText_1 ?_
  refine gf_Waves_36 C (zx4 hx 71 rfl) rfl rfl d_Waves_appendText_4 ?_
  refine z_astore_n C d_Waves_appendText_7 rfl (by decide) ?_
  refine z_aload_n C d_Waves_appendText_8 0 rfl rfl ?_
  refine gf_Waves_40 C (zx4 hx 72 rfl) rfl rfl d_Waves_appendText_9 ?_
  refine z_iconst C d_Waves_appendText_12 zki_4 ?_
  refine z_iadd C d_Waves_appendText_13 ?_
  refine z_sipush C d_Waves_appendText_14 zks_700 ?_
  refine z_icmp_le (tgt := 30) C d_Waves_appendText_17 rfl (fun h9 => ?_) (fun h9 => ?_)
  · have hf := iff_t hf h9
    refine z_aload_n C d_Waves_appendText_30 0 rfl rfl ?_
    refine z_iload_n C d_Waves_appendText_31 2 rfl rfl ?_
    refine z_bipush C d_Waves_appendText_32 zkb_24 ?_
    refine z_iushr C d_Waves_appendText_34 ?_
    obtain ⟨σ2, h1, hf⟩ := bd_s hf
    refine z_cVv C kl_Waves_52 rfl (c_Text_append hx h1) (zx4 hx 72 rfl) rfl rfl rfl (Nat.le_of_ble_eq_true rfl) ⟨(Nat.le_of_ble_eq_true rfl), (Nat.le_of_ble_eq_true rfl)⟩ ⟨(Nat.le_of_ble_eq_true rfl), (Nat.le_of_ble_eq_true rfl)⟩ d_Waves_appendText_35 ?_
    refine z_aload_n C d_Waves_appendText_38 0 rfl rfl ?_
    refine z_iload_n C d_Waves_appendText_39 2 rfl rfl ?_
    refine z_bipush C d_Waves_appendText_40 zkb_16 ?_
    refine z_iushr C d_Waves_appendText_42 ?_
    obtain ⟨σ4, h3, hf⟩ := bd_s hf
    refine z_cVv C kl_Waves_52 rfl (c_Text_append hx h3) (zx4 hx 72 rfl) rfl rfl rfl (Nat.le_of_ble_eq_true rfl) ⟨(Nat.le_of_ble_eq_true rfl), (Nat.le_of_ble_eq_true rfl)⟩ ⟨(Nat.le_of_ble_eq_true rfl), (Nat.le_of_ble_eq_true rfl)⟩ d_Waves_appendText_43 ?_
    refine z_aload_n C d_Waves_appendText_46 0 rfl rfl ?_
    refine z_iload_n C d_Waves_appendText_47 2 rfl rfl ?_
    refine z_bipush C d_Waves_appendText_48 zkb_8 ?_
    refine z_iushr C d_Waves_appendText_50 ?_
    obtain ⟨σ6, h5, hf⟩ := bd_s hf
    refine z_cVv C kl_Waves_52 rfl (c_Text_append hx h5) (zx4 hx 72 rfl) rfl rfl rfl (Nat.le_of_ble_eq_true rfl) ⟨(Nat.le_of_ble_eq_true rfl), (Nat.le_of_ble_eq_true rfl)⟩ ⟨(Nat.le_of_ble_eq_true rfl), (Nat.le_of_ble_eq_true rfl)⟩ d_Waves_appendText_51 ?_
    refine z_aload_n C d_Waves_appendText_54 0 rfl rfl ?_
    refine z_iload_n C d_Waves_appendText_55 2 rfl rfl ?_
    obtain ⟨σ8, h7, hf⟩ := bd_s hf
    refine z_cVv C kl_Waves_52 rfl (c_Text_append hx h7) (zx4 hx 72 rfl) rfl rfl rfl (Nat.le_of_ble_eq_true rfl) ⟨(Nat.le_of_ble_eq_true rfl), (Nat.le_of_ble_eq_true rfl)⟩ ⟨(Nat.le_of_ble_eq_true rfl), (Nat.le_of_ble_eq_true rfl)⟩ d_Waves_appendText_56 ?_
    refine z_aload_n C d_Waves_appendText_59 0 rfl rfl ?_
    refine gf_Waves_40 C (zx4 hx 72 rfl) rfl rfl d_Waves_appendText_60 ?_
    cases hf
    refine z_xret rfl ?_
    exact z_iret C rfl (Nat.le_of_ble_eq_true rfl) (Nat.le_of_ble_eq_true rfl) d_Waves_appendText_63
  · have hf := iff_f hf h9
    cases hf
    exact zth_49_47 C X rfl d_Waves_appendText_20 d_Waves_appendText_23 d_Waves_appendText_24 d_Waves_appendText_26 d_Waves_appendText_29 (Nat.le_of_ble_eq_true rfl) (Nat.le_of_ble_eq_true rfl) (Nat.le_of_ble_eq_true rfl) (Nat.le_of_ble_eq_true rfl) (Nat.le_of_ble_eq_true rfl) (Nat.le_of_ble_eq_true rfl)
abbrev rm_Waves_checkWithin : Room := { frames := 6, cells := 1, slots := 6, locals := 92 }
theorem d_Waves_checkWithin_0 : decode b_Waves_checkWithin 0 = .ok (.iload_n 0, 1) := by decide +kernel
theorem d_Waves_checkWithin_1 : decode b_Waves_checkWithin 1 = .ok (.iload_n 1, 1) := by decide +kernel
theorem d_Waves_checkWithin_2 : decode b_Waves_checkWithin 2 = .ok (.if_icmp .lt 8, 3) := by decide +kernel
theorem d_Waves_checkWithin_5 : decode b_Waves_checkWithin 5 = .ok (.iload_n 0, 1) := by decide +kernel
theorem d_Waves_checkWithin_6 : decode b_Waves_checkWithin 6 = .ok (.iload_n 2, 1) := by decide +kernel
theorem d_Waves_checkWithin_7 : decode b_Waves_checkWithin 7 = .ok (.if_icmp .le 14, 3) := by decide +kernel
theorem d_Waves_checkWithin_10 : decode b_Waves_checkWithin 10 = .ok (.new 99, 3) := by decide +kernel
theorem d_Waves_checkWithin_13 : decode b_Waves_checkWithin 13 = .ok (.dup, 1) := by decide +kernel
theorem d_Waves_checkWithin_14 : decode b_Waves_checkWithin 14 = .ok (.ldc_w 349, 3) := by decide +kernel
theorem d_Waves_checkWithin_17 : decode b_Waves_checkWithin 17 = .ok (.invokespecial 103, 3) := by decide +kernel
theorem d_Waves_checkWithin_20 : decode b_Waves_checkWithin 20 = .ok (.athrow, 1) := by decide +kernel
theorem d_Waves_checkWithin_21 : decode b_Waves_checkWithin 21 = .ok (.return_, 1) := by decide +kernel
def F_Waves_checkWithin (a0 : Int32) (a1 : Int32) (a2 : Int32) (σ : zSt) : Option ((Unit) ⊕ String) :=
  if a0 < a1 then some (.inr "java/lang/IllegalArgumentException") else (if a0 ≤ a2 then some (.inl ()) else some (.inr "java/lang/IllegalArgumentException"))
set_option maxHeartbeats 4000000 in
set_option maxRecDepth 100000 in
theorem c_Waves_checkWithin {l : Launch} (hst : l.stackTraces = false) {G : zLA} {a0 : Int32} {a1 : Int32} {a2 : Int32} {σ : zSt} {out : (Unit) ⊕ String} (hf : F_Waves_checkWithin a0 a1 a2 σ = some out) : zX l G y_Waves_checkWithin (zws y_Waves_checkWithin b_Waves_checkWithin 3 none) rm_Waves_checkWithin [.int a0, .int a1, .int a2] σ (cv_pu out σ) := by
  refine z_ofX (own := "VillageWaves") (lv := [(0, .int a0), (1, .int a1), (2, .int a2)]) (by decide +kernel) rfl rfl (Nat.le_of_ble_eq_true rfl) (fun p e s m args below meth c C X0 => ?_)
  have X : zXx l c := ⟨hst, X0⟩
  rw [F_Waves_checkWithin] at hf
  refine z_iload_n C d_Waves_checkWithin_0 0 rfl rfl ?_
  refine z_iload_n C d_Waves_checkWithin_1 1 rfl rfl ?_
  refine z_icmp_lt (tgt := 10) C d_Waves_checkWithin_2 rfl (fun h2 => ?_) (fun h2 => ?_)
  · have hf := iff_t hf h2
    cases hf
    exact zth_103_349 C X rfl d_Waves_checkWithin_10 d_Waves_checkWithin_13 d_Waves_checkWithin_14 d_Waves_checkWithin_17 d_Waves_checkWithin_20 (Nat.le_of_ble_eq_true rfl) (Nat.le_of_ble_eq_true rfl) (Nat.le_of_ble_eq_true rfl) (Nat.le_of_ble_eq_true rfl) (Nat.le_of_ble_eq_true rfl) (Nat.le_of_ble_eq_true rfl)
  · have hf := iff_f hf h2
    refine z_iload_n C d_Waves_checkWithin_5 0 rfl rfl ?_
    refine z_iload_n C d_Waves_checkWithin_6 2 rfl rfl ?_
    refine z_icmp_le (tgt := 21) C d_Waves_checkWithin_7 rfl (fun h1 => ?_) (fun h1 => ?_)
    · have hf := iff_t hf h1
      cases hf
      refine z_xret rfl ?_
      exact z_vret C rfl (Nat.le_of_ble_eq_true rfl) (Nat.le_of_ble_eq_true rfl) d_Waves_checkWithin_21
    · have hf := iff_f hf h1
      cases hf
      exact zth_103_349 C X rfl d_Waves_checkWithin_10 d_Waves_checkWithin_13 d_Waves_checkWithin_14 d_Waves_checkWithin_17 d_Waves_checkWithin_20 (Nat.le_of_ble_eq_true rfl) (Nat.le_of_ble_eq_true rfl) (Nat.le_of_ble_eq_true rfl) (Nat.le_of_ble_eq_true rfl) (Nat.le_of_ble_eq_true rfl) (Nat.le_of_ble_eq_true rfl)
abbrev rm_Waves_truncateText : Room := { frames := 7, cells := 1, slots := 6, locals := 114 }
theorem d_Waves_truncateText_0 : decode b_Waves_truncateText 0 = .ok (.iload_n 1, 1) := by decide +kernel
theorem d_Waves_truncateText_1 : decode b_Waves_truncateText 1 = .ok (.iconst 0, 1) := by decide +kernel
theorem d_Waves_truncateText_2 : decode b_Waves_truncateText 2 = .ok (.aload_n 0, 1) := by decide +kernel
theorem d_Waves_truncateText_3 : decode b_Waves_truncateText 3 = .ok (.getfield 32, 3) := by decide +kernel
theorem d_Waves_truncateText_6 : decode b_Waves_truncateText 6 = .ok (.getfield 36, 3) := by decide +kernel
theorem d_Waves_truncateText_9 : decode b_Waves_truncateText 9 = .ok (.getfield 40, 3) := by decide +kernel
theorem d_Waves_truncateText_12 : decode b_Waves_truncateText 12 = .ok (.invokestatic 56, 3) := by decide +kernel
theorem d_Waves_truncateText_15 : decode b_Waves_truncateText 15 = .ok (.aload_n 0, 1) := by decide +kernel
theorem d_Waves_truncateText_16 : decode b_Waves_truncateText 16 = .ok (.getfield 32, 3) := by decide +kernel
theorem d_Waves_truncateText_19 : decode b_Waves_truncateText 19 = .ok (.getfield 36, 3) := by decide +kernel
theorem d_Waves_truncateText_22 : decode b_Waves_truncateText 22 = .ok (.iload_n 1, 1) := by decide +kernel
theorem d_Waves_truncateText_23 : decode b_Waves_truncateText 23 = .ok (.putfield 40, 3) := by decide +kernel
theorem d_Waves_truncateText_26 : decode b_Waves_truncateText 26 = .ok (.iload_n 1, 1) := by decide +kernel
theorem d_Waves_truncateText_27 : decode b_Waves_truncateText 27 = .ok (.ireturn, 1) := by decide +kernel
def F_Waves_truncateText (a0 : Int32) (σ : zSt) : Option ((Int32 × zSt) ⊕ String) :=
  (F_Waves_checkWithin a0 (0 : Int32) (σ.1 4 72 1) σ).bind fun q2 => match q2 with | .inr E3 => some (.inr E3) | .inl _ => some (.inl (a0, (zst σ 4 72 1 a0)))
set_option maxHeartbeats 4000000 in
set_option maxRecDepth 100000 in
theorem c_Waves_truncateText {l : Launch} (hst : l.stackTraces = false) {G : zLA} (hx : zxl G) {a0 : Int32} {σ : zSt} {out : (Int32 × zSt) ⊕ String} (hf : F_Waves_truncateText a0 σ = some out) : zX l G y_Waves_truncateText (zws y_Waves_truncateText b_Waves_truncateText 2 (some .int)) rm_Waves_truncateText [.ref (zad G 4 70), .int a0] σ (cv_wi out σ) := by
  refine z_ofX (own := "VillageWaves") (lv := [(0, .ref (zad G 4 70)), (1, .int a0)]) (by decide +kernel) rfl rfl (Nat.le_of_ble_eq_true rfl) (fun p e s m args below meth c C X0 => ?_)
  have X : zXx l c := ⟨hst, X0⟩
  rw [F_Waves_truncateText] at hf
  refine z_iload_n C d_Waves_truncateText_0 1 rfl rfl ?_
  refine z_iconst C d_Waves_truncateText_1 zki_0 ?_
  refine z_aload_n C d_Waves_truncateText_2 0 rfl rfl ?_
  refine gf_Waves_32 C (zx4 hx 70 rfl) rfl rfl d_Waves_truncateText_3 ?_
  refine gf_Waves_36 C (zx4 hx 71 rfl) rfl rfl d_Waves_truncateText_6 ?_
  refine gf_Waves_40 C (zx4 hx 72 rfl) rfl rfl d_Waves_truncateText_9 ?_
  obtain ⟨q2, h1, hf⟩ := bd_s hf
  cases q2 with
  | inr E3 =>
    cases hf
    exact z_tXSv C kl_Waves_56 (c_Waves_checkWithin X.1 h1) rfl rfl (Nat.le_of_ble_eq_true rfl) ⟨(Nat.le_of_ble_eq_true rfl), (Nat.le_of_ble_eq_true rfl)⟩ ⟨(Nat.le_of_ble_eq_true rfl), (Nat.le_of_ble_eq_true rfl)⟩ d_Waves_truncateText_12 X rfl (Nat.le_of_ble_eq_true rfl) (Nat.le_of_ble_eq_true rfl)
  | inl _ =>
    refine z_cXSv C kl_Waves_56 (c_Waves_checkWithin X.1 h1) rfl rfl (Nat.le_of_ble_eq_true rfl) ⟨(Nat.le_of_ble_eq_true rfl), (Nat.le_of_ble_eq_true rfl)⟩ ⟨(Nat.le_of_ble_eq_true rfl), (Nat.le_of_ble_eq_true rfl)⟩ d_Waves_truncateText_12 ?_
    refine z_aload_n C d_Waves_truncateText_15 0 rfl rfl ?_
    refine gf_Waves_32 C (zx4 hx 70 rfl) rfl rfl d_Waves_truncateText_16 ?_
    refine gf_Waves_36 C (zx4 hx 71 rfl) rfl rfl d_Waves_truncateText_19 ?_
    refine z_iload_n C d_Waves_truncateText_22 1 rfl rfl ?_
    refine pf_Waves_40 C (zx4 hx 72 rfl) rfl (Nat.le_of_ble_eq_true rfl) rfl d_Waves_truncateText_23 ?_
    refine z_iload_n C d_Waves_truncateText_26 1 rfl rfl ?_
    cases hf
    refine z_xret rfl ?_
    exact z_iret C rfl (Nat.le_of_ble_eq_true rfl) (Nat.le_of_ble_eq_true rfl) d_Waves_truncateText_27
abbrev rm_Waves_load : Room := { frames := 7, cells := 0, slots := 0, locals := 156 }
theorem d_Waves_load_0 : decode b_Waves_load 0 = .ok (.aload_n 0, 1) := by decide +kernel
theorem d_Waves_load_1 : decode b_Waves_load 1 = .ok (.getfield 32, 3) := by decide +kernel
theorem d_Waves_load_4 : decode b_Waves_load 4 = .ok (.aload_n 0, 1) := by decide +kernel
theorem d_Waves_load_5 : decode b_Waves_load 5 = .ok (.getfield 16, 3) := by decide +kernel
theorem d_Waves_load_8 : decode b_Waves_load 8 = .ok (.invokevirtual 60, 3) := by decide +kernel
theorem d_Waves_load_11 : decode b_Waves_load 11 = .ok (.istore_n 1, 1) := by decide +kernel
theorem d_Waves_load_12 : decode b_Waves_load 12 = .ok (.aload_n 0, 1) := by decide +kernel
theorem d_Waves_load_13 : decode b_Waves_load 13 = .ok (.getfield 32, 3) := by decide +kernel
theorem d_Waves_load_16 : decode b_Waves_load 16 = .ok (.getfield 36, 3) := by decide +kernel
theorem d_Waves_load_19 : decode b_Waves_load 19 = .ok (.iconst 0, 1) := by decide +kernel
theorem d_Waves_load_20 : decode b_Waves_load 20 = .ok (.putfield 40, 3) := by decide +kernel
theorem d_Waves_load_23 : decode b_Waves_load 23 = .ok (.iload_n 1, 1) := by decide +kernel
theorem d_Waves_load_24 : decode b_Waves_load 24 = .ok (.ifCond .ne 5, 3) := by decide +kernel
theorem d_Waves_load_27 : decode b_Waves_load 27 = .ok (.iconst (-1), 1) := by decide +kernel
theorem d_Waves_load_28 : decode b_Waves_load 28 = .ok (.ireturn, 1) := by decide +kernel
theorem d_Waves_load_29 : decode b_Waves_load 29 = .ok (.aload_n 0, 1) := by decide +kernel
theorem d_Waves_load_30 : decode b_Waves_load 30 = .ok (.getfield 10, 3) := by decide +kernel
theorem d_Waves_load_33 : decode b_Waves_load 33 = .ok (.aload_n 0, 1) := by decide +kernel
theorem d_Waves_load_34 : decode b_Waves_load 34 = .ok (.getfield 16, 3) := by decide +kernel
theorem d_Waves_load_37 : decode b_Waves_load 37 = .ok (.invokevirtual 64, 3) := by decide +kernel
theorem d_Waves_load_40 : decode b_Waves_load 40 = .ok (.aload_n 0, 1) := by decide +kernel
theorem d_Waves_load_41 : decode b_Waves_load 41 = .ok (.getfield 10, 3) := by decide +kernel
theorem d_Waves_load_44 : decode b_Waves_load 44 = .ok (.getfield 68, 3) := by decide +kernel
theorem d_Waves_load_47 : decode b_Waves_load 47 = .ok (.getfield 72, 3) := by decide +kernel
theorem d_Waves_load_50 : decode b_Waves_load 50 = .ok (.ireturn, 1) := by decide +kernel
def F_Waves_load (σ : zSt) : Option (Int32 × zSt) :=
  bd2 (F_Reader_readSetup 1 σ) fun r2 σ3 => if r2 = 0 then some ((-1 : Int32), (zst σ3 4 72 1 (0 : Int32))) else ((F_Village_copyFrom 0 1 (zst σ3 4 72 1 (0 : Int32))).bind fun σ5 => some ((σ5.1 0 3 0), σ5))
set_option maxHeartbeats 4000000 in
set_option maxRecDepth 100000 in
theorem c_Waves_load {l : Launch} {G : zLA} (hx : zxl G) {σ : zSt} {r : Int32} {σ' : zSt} (hf : F_Waves_load σ = some (r, σ')) : zM l G y_Waves_load (zws y_Waves_load b_Waves_load 2 (some .int)) rm_Waves_load [.ref (zad G 4 70)] σ (some (.int r)) σ' := by
  refine z_ofM (own := "VillageWaves") (lv := [(0, .ref (zad G 4 70))]) (by decide +kernel) rfl rfl (Nat.le_of_ble_eq_true rfl) (fun p e s m args below meth c C => ?_)
  rw [F_Waves_load] at hf
  refine z_aload_n C d_Waves_load_0 0 rfl rfl ?_
  refine gf_Waves_32 C (zx4 hx 70 rfl) rfl rfl d_Waves_load_1 ?_
  refine z_aload_n C d_Waves_load_4 0 rfl rfl ?_
  refine gf_Waves_16 C (zx4 hx 70 rfl) rfl rfl d_Waves_load_5 ?_
  obtain ⟨r2, σ3, h1, hf⟩ := bd2_s hf
  refine z_cVi C kl_Waves_60 rfl (c_Reader_readSetup hx (zxv hx 1 rfl) h1) (zx4 hx 71 rfl) rfl rfl rfl (Nat.le_of_ble_eq_true rfl) ⟨(Nat.le_of_ble_eq_true rfl), (Nat.le_of_ble_eq_true rfl)⟩ ⟨(Nat.le_of_ble_eq_true rfl), (Nat.le_of_ble_eq_true rfl)⟩ d_Waves_load_8 ?_
  refine z_istore_n C d_Waves_load_11 rfl (by decide) ?_
  refine z_aload_n C d_Waves_load_12 1 rfl rfl ?_
  refine gf_Waves_32 C (zx4 hx 70 rfl) rfl rfl d_Waves_load_13 ?_
  refine gf_Waves_36 C (zx4 hx 71 rfl) rfl rfl d_Waves_load_16 ?_
  refine z_iconst C d_Waves_load_19 zki_0 ?_
  refine pf_Waves_40 C (zx4 hx 72 rfl) rfl (Nat.le_of_ble_eq_true rfl) rfl d_Waves_load_20 ?_
  refine z_iload_n C d_Waves_load_23 0 rfl rfl ?_
  refine z_if_ne (tgt := 29) C d_Waves_load_24 rfl (fun h6 => ?_) (fun h6 => ?_)
  · have hf := iff_f hf h6
    refine z_aload_n C d_Waves_load_29 1 rfl rfl ?_
    refine gf_Waves_10 C (zx4 hx 70 rfl) rfl rfl d_Waves_load_30 ?_
    refine z_aload_n C d_Waves_load_33 1 rfl rfl ?_
    refine gf_Waves_16 C (zx4 hx 70 rfl) rfl rfl d_Waves_load_34 ?_
    obtain ⟨σ5, h4, hf⟩ := bd_s hf
    refine z_cVv C kl_Waves_64 rfl (c_Village_copyFrom (zxv hx 0 rfl) (zxv hx 1 rfl) h4) (zlv (zxv hx 0 rfl) 0 rfl) rfl rfl rfl (Nat.le_of_ble_eq_true rfl) ⟨(Nat.le_of_ble_eq_true rfl), (Nat.le_of_ble_eq_true rfl)⟩ ⟨(Nat.le_of_ble_eq_true rfl), (Nat.le_of_ble_eq_true rfl)⟩ d_Waves_load_37 ?_
    refine z_aload_n C d_Waves_load_40 1 rfl rfl ?_
    refine gf_Waves_10 C (zx4 hx 70 rfl) rfl rfl d_Waves_load_41 ?_
    refine gf_Waves_68 C (zlv (zxv hx 0 rfl) 0 rfl) rfl rfl d_Waves_load_44 ?_
    refine gf_Waves_72 C (zlv (zxv hx 0 rfl) 3 rfl) rfl rfl d_Waves_load_47 ?_
    cases hf
    exact z_iret C rfl (Nat.le_of_ble_eq_true rfl) (Nat.le_of_ble_eq_true rfl) d_Waves_load_50
  · have hf := iff_t hf h6
    refine z_iconst C d_Waves_load_27 zki_m1 ?_
    cases hf
    exact z_iret C rfl (Nat.le_of_ble_eq_true rfl) (Nat.le_of_ble_eq_true rfl) d_Waves_load_28
abbrev rm_Waves_errorCode : Room := { frames := 0, cells := 0, slots := 0, locals := 0 }
theorem d_Waves_errorCode_0 : decode b_Waves_errorCode 0 = .ok (.aload_n 0, 1) := by decide +kernel
theorem d_Waves_errorCode_1 : decode b_Waves_errorCode 1 = .ok (.getfield 32, 3) := by decide +kernel
theorem d_Waves_errorCode_4 : decode b_Waves_errorCode 4 = .ok (.getfield 77, 3) := by decide +kernel
theorem d_Waves_errorCode_7 : decode b_Waves_errorCode 7 = .ok (.ireturn, 1) := by decide +kernel
def F_Waves_errorCode (σ : zSt) : Option (Int32) :=
  some (σ.1 4 71 1)
set_option maxHeartbeats 4000000 in
set_option maxRecDepth 100000 in
theorem c_Waves_errorCode {l : Launch} {G : zLA} (hx : zxl G) {σ : zSt} {r : Int32} (hf : F_Waves_errorCode σ = some r) : zM l G y_Waves_errorCode (zws y_Waves_errorCode b_Waves_errorCode 1 (some .int)) rm_Waves_errorCode [.ref (zad G 4 70)] σ (some (.int r)) σ := by
  refine z_ofM (own := "VillageWaves") (lv := [(0, .ref (zad G 4 70))]) (by decide +kernel) rfl rfl (Nat.le_of_ble_eq_true rfl) (fun p e s m args below meth c C => ?_)
  rw [F_Waves_errorCode] at hf
  refine z_aload_n C d_Waves_errorCode_0 0 rfl rfl ?_
  refine gf_Waves_32 C (zx4 hx 70 rfl) rfl rfl d_Waves_errorCode_1 ?_
  refine gf_Waves_77 C (zx4 hx 71 rfl) rfl rfl d_Waves_errorCode_4 ?_
  cases hf
  exact z_iret C rfl (Nat.le_of_ble_eq_true rfl) (Nat.le_of_ble_eq_true rfl) d_Waves_errorCode_7
abbrev rm_Waves_errorPosition : Room := { frames := 0, cells := 0, slots := 0, locals := 0 }
theorem d_Waves_errorPosition_0 : decode b_Waves_errorPosition 0 = .ok (.aload_n 0, 1) := by decide +kernel
theorem d_Waves_errorPosition_1 : decode b_Waves_errorPosition 1 = .ok (.getfield 32, 3) := by decide +kernel
theorem d_Waves_errorPosition_4 : decode b_Waves_errorPosition 4 = .ok (.getfield 80, 3) := by decide +kernel
theorem d_Waves_errorPosition_7 : decode b_Waves_errorPosition 7 = .ok (.ireturn, 1) := by decide +kernel
def F_Waves_errorPosition (σ : zSt) : Option (Int32) :=
  some (σ.1 4 71 2)
set_option maxHeartbeats 4000000 in
set_option maxRecDepth 100000 in
theorem c_Waves_errorPosition {l : Launch} {G : zLA} (hx : zxl G) {σ : zSt} {r : Int32} (hf : F_Waves_errorPosition σ = some r) : zM l G y_Waves_errorPosition (zws y_Waves_errorPosition b_Waves_errorPosition 1 (some .int)) rm_Waves_errorPosition [.ref (zad G 4 70)] σ (some (.int r)) σ := by
  refine z_ofM (own := "VillageWaves") (lv := [(0, .ref (zad G 4 70))]) (by decide +kernel) rfl rfl (Nat.le_of_ble_eq_true rfl) (fun p e s m args below meth c C => ?_)
  rw [F_Waves_errorPosition] at hf
  refine z_aload_n C d_Waves_errorPosition_0 0 rfl rfl ?_
  refine gf_Waves_32 C (zx4 hx 70 rfl) rfl rfl d_Waves_errorPosition_1 ?_
  refine gf_Waves_80 C (zx4 hx 71 rfl) rfl rfl d_Waves_errorPosition_4 ?_
  cases hf
  exact z_iret C rfl (Nat.le_of_ble_eq_true rfl) (Nat.le_of_ble_eq_true rfl) d_Waves_errorPosition_7
abbrev rm_Waves_addHouse : Room := { frames := 7, cells := 6, slots := 36, locals := 114 }
theorem d_Waves_addHouse_0 : decode b_Waves_addHouse 0 = .ok (.iload_n 1, 1) := by decide +kernel
theorem d_Waves_addHouse_1 : decode b_Waves_addHouse 1 = .ok (.iconst 0, 1) := by decide +kernel
theorem d_Waves_addHouse_2 : decode b_Waves_addHouse 2 = .ok (.bipush 99, 2) := by decide +kernel
theorem d_Waves_addHouse_4 : decode b_Waves_addHouse 4 = .ok (.invokestatic 56, 3) := by decide +kernel
theorem d_Waves_addHouse_7 : decode b_Waves_addHouse 7 = .ok (.iload_n 2, 1) := by decide +kernel
theorem d_Waves_addHouse_8 : decode b_Waves_addHouse 8 = .ok (.iconst 0, 1) := by decide +kernel
theorem d_Waves_addHouse_9 : decode b_Waves_addHouse 9 = .ok (.bipush 99, 2) := by decide +kernel
theorem d_Waves_addHouse_11 : decode b_Waves_addHouse 11 = .ok (.invokestatic 56, 3) := by decide +kernel
theorem d_Waves_addHouse_14 : decode b_Waves_addHouse 14 = .ok (.iload_n 3, 1) := by decide +kernel
theorem d_Waves_addHouse_15 : decode b_Waves_addHouse 15 = .ok (.iconst 0, 1) := by decide +kernel
theorem d_Waves_addHouse_16 : decode b_Waves_addHouse 16 = .ok (.sipush 150, 3) := by decide +kernel
theorem d_Waves_addHouse_19 : decode b_Waves_addHouse 19 = .ok (.invokestatic 56, 3) := by decide +kernel
theorem d_Waves_addHouse_22 : decode b_Waves_addHouse 22 = .ok (.iload 4, 2) := by decide +kernel
theorem d_Waves_addHouse_24 : decode b_Waves_addHouse 24 = .ok (.iconst 0, 1) := by decide +kernel
theorem d_Waves_addHouse_25 : decode b_Waves_addHouse 25 = .ok (.sipush 999, 3) := by decide +kernel
theorem d_Waves_addHouse_28 : decode b_Waves_addHouse 28 = .ok (.invokestatic 56, 3) := by decide +kernel
theorem d_Waves_addHouse_31 : decode b_Waves_addHouse 31 = .ok (.iload 5, 2) := by decide +kernel
theorem d_Waves_addHouse_33 : decode b_Waves_addHouse 33 = .ok (.iconst 1, 1) := by decide +kernel
theorem d_Waves_addHouse_34 : decode b_Waves_addHouse 34 = .ok (.bipush 9, 2) := by decide +kernel
theorem d_Waves_addHouse_36 : decode b_Waves_addHouse 36 = .ok (.invokestatic 56, 3) := by decide +kernel
theorem d_Waves_addHouse_39 : decode b_Waves_addHouse 39 = .ok (.aload_n 0, 1) := by decide +kernel
theorem d_Waves_addHouse_40 : decode b_Waves_addHouse 40 = .ok (.getfield 10, 3) := by decide +kernel
theorem d_Waves_addHouse_43 : decode b_Waves_addHouse 43 = .ok (.getfield 68, 3) := by decide +kernel
theorem d_Waves_addHouse_46 : decode b_Waves_addHouse 46 = .ok (.invokevirtual 83, 3) := by decide +kernel
theorem d_Waves_addHouse_49 : decode b_Waves_addHouse 49 = .ok (.ifCond .eq 13, 3) := by decide +kernel
theorem d_Waves_addHouse_52 : decode b_Waves_addHouse 52 = .ok (.new 45, 3) := by decide +kernel
theorem d_Waves_addHouse_55 : decode b_Waves_addHouse 55 = .ok (.dup, 1) := by decide +kernel
theorem d_Waves_addHouse_56 : decode b_Waves_addHouse 56 = .ok (.ldc 87, 2) := by decide +kernel
theorem d_Waves_addHouse_58 : decode b_Waves_addHouse 58 = .ok (.invokespecial 49, 3) := by decide +kernel
theorem d_Waves_addHouse_61 : decode b_Waves_addHouse 61 = .ok (.athrow, 1) := by decide +kernel
theorem d_Waves_addHouse_62 : decode b_Waves_addHouse 62 = .ok (.aload_n 0, 1) := by decide +kernel
theorem d_Waves_addHouse_63 : decode b_Waves_addHouse 63 = .ok (.getfield 10, 3) := by decide +kernel
theorem d_Waves_addHouse_66 : decode b_Waves_addHouse 66 = .ok (.getfield 68, 3) := by decide +kernel
theorem d_Waves_addHouse_69 : decode b_Waves_addHouse 69 = .ok (.iload_n 1, 1) := by decide +kernel
theorem d_Waves_addHouse_70 : decode b_Waves_addHouse 70 = .ok (.iload_n 2, 1) := by decide +kernel
theorem d_Waves_addHouse_71 : decode b_Waves_addHouse 71 = .ok (.iload_n 3, 1) := by decide +kernel
theorem d_Waves_addHouse_72 : decode b_Waves_addHouse 72 = .ok (.iload 4, 2) := by decide +kernel
theorem d_Waves_addHouse_74 : decode b_Waves_addHouse 74 = .ok (.iload 5, 2) := by decide +kernel
theorem d_Waves_addHouse_76 : decode b_Waves_addHouse 76 = .ok (.invokevirtual 89, 3) := by decide +kernel
theorem d_Waves_addHouse_79 : decode b_Waves_addHouse 79 = .ok (.ireturn, 1) := by decide +kernel
def F_Waves_addHouse (a0 : Int32) (a1 : Int32) (a2 : Int32) (a3 : Int32) (a4 : Int32) (σ : zSt) : Option ((Int32 × zSt) ⊕ String) :=
  (F_Waves_checkWithin a0 (0 : Int32) (99 : Int32) σ).bind fun q2 => match q2 with | .inr E21 => some (.inr E21) | .inl _ => (F_Waves_checkWithin a1 (0 : Int32) (99 : Int32) σ).bind fun q4 => match q4 with | .inr E20 => some (.inr E20) | .inl _ => (F_Waves_checkWithin a2 (0 : Int32) (150 : Int32) σ).bind fun q6 => match q6 with | .inr E19 => some (.inr E19) | .inl _ => (F_Waves_checkWithin a3 (0 : Int32) (999 : Int32) σ).bind fun q8 => match q8 with | .inr E18 => some (.inr E18) | .inl _ => (F_Waves_checkWithin a4 (1 : Int32) (9 : Int32) σ).bind fun q10 => match q10 with | .inr E17 => some (.inr E17) | .inl _ => (F_Homes_isFull 0 σ).bind fun r12 => if r12 = 0 then (bd2 (F_Homes_add 0 a0 a1 a2 a3 a4 σ) fun r14 σ15 => some (.inl (r14, σ15))) else some (.inr "java/lang/IllegalStateException")
set_option maxHeartbeats 4000000 in
set_option maxRecDepth 100000 in
theorem c_Waves_addHouse {l : Launch} (hst : l.stackTraces = false) {G : zLA} (hx : zxl G) {a0 : Int32} {a1 : Int32} {a2 : Int32} {a3 : Int32} {a4 : Int32} {σ : zSt} {out : (Int32 × zSt) ⊕ String} (hf : F_Waves_addHouse a0 a1 a2 a3 a4 σ = some out) : zX l G y_Waves_addHouse (zws y_Waves_addHouse b_Waves_addHouse 6 (some .int)) rm_Waves_addHouse [.ref (zad G 4 70), .int a0, .int a1, .int a2, .int a3, .int a4] σ (cv_wi out σ) := by
  refine z_ofX (own := "VillageWaves") (lv := [(0, .ref (zad G 4 70)), (1, .int a0), (2, .int a1), (3, .int a2), (4, .int a3), (5, .int a4)]) (by decide +kernel) rfl rfl (Nat.le_of_ble_eq_true rfl) (fun p e s m args below meth c C X0 => ?_)
  have X : zXx l c := ⟨hst, X0⟩
  rw [F_Waves_addHouse] at hf
  refine z_iload_n C d_Waves_addHouse_0 1 rfl rfl ?_
  refine z_iconst C d_Waves_addHouse_1 zki_0 ?_
  refine z_bipush C d_Waves_addHouse_2 zkb_99 ?_
  obtain ⟨q2, h1, hf⟩ := bd_s hf
  cases q2 with
  | inr E21 =>
    cases hf
    exact z_tXSv C kl_Waves_56 (c_Waves_checkWithin X.1 h1) rfl rfl (Nat.le_of_ble_eq_true rfl) ⟨(Nat.le_of_ble_eq_true rfl), (Nat.le_of_ble_eq_true rfl)⟩ ⟨(Nat.le_of_ble_eq_true rfl), (Nat.le_of_ble_eq_true rfl)⟩ d_Waves_addHouse_4 X rfl (Nat.le_of_ble_eq_true rfl) (Nat.le_of_ble_eq_true rfl)
  | inl _ =>
    refine z_cXSv C kl_Waves_56 (c_Waves_checkWithin X.1 h1) rfl rfl (Nat.le_of_ble_eq_true rfl) ⟨(Nat.le_of_ble_eq_true rfl), (Nat.le_of_ble_eq_true rfl)⟩ ⟨(Nat.le_of_ble_eq_true rfl), (Nat.le_of_ble_eq_true rfl)⟩ d_Waves_addHouse_4 ?_
    refine z_iload_n C d_Waves_addHouse_7 2 rfl rfl ?_
    refine z_iconst C d_Waves_addHouse_8 zki_0 ?_
    refine z_bipush C d_Waves_addHouse_9 zkb_99 ?_
    obtain ⟨q4, h3, hf⟩ := bd_s hf
    cases q4 with
    | inr E20 =>
      cases hf
      exact z_tXSv C kl_Waves_56 (c_Waves_checkWithin X.1 h3) rfl rfl (Nat.le_of_ble_eq_true rfl) ⟨(Nat.le_of_ble_eq_true rfl), (Nat.le_of_ble_eq_true rfl)⟩ ⟨(Nat.le_of_ble_eq_true rfl), (Nat.le_of_ble_eq_true rfl)⟩ d_Waves_addHouse_11 X rfl (Nat.le_of_ble_eq_true rfl) (Nat.le_of_ble_eq_true rfl)
    | inl _ =>
      refine z_cXSv C kl_Waves_56 (c_Waves_checkWithin X.1 h3) rfl rfl (Nat.le_of_ble_eq_true rfl) ⟨(Nat.le_of_ble_eq_true rfl), (Nat.le_of_ble_eq_true rfl)⟩ ⟨(Nat.le_of_ble_eq_true rfl), (Nat.le_of_ble_eq_true rfl)⟩ d_Waves_addHouse_11 ?_
      refine z_iload_n C d_Waves_addHouse_14 3 rfl rfl ?_
      refine z_iconst C d_Waves_addHouse_15 zki_0 ?_
      refine z_sipush C d_Waves_addHouse_16 zks_150 ?_
      obtain ⟨q6, h5, hf⟩ := bd_s hf
      cases q6 with
      | inr E19 =>
        cases hf
        exact z_tXSv C kl_Waves_56 (c_Waves_checkWithin X.1 h5) rfl rfl (Nat.le_of_ble_eq_true rfl) ⟨(Nat.le_of_ble_eq_true rfl), (Nat.le_of_ble_eq_true rfl)⟩ ⟨(Nat.le_of_ble_eq_true rfl), (Nat.le_of_ble_eq_true rfl)⟩ d_Waves_addHouse_19 X rfl (Nat.le_of_ble_eq_true rfl) (Nat.le_of_ble_eq_true rfl)
      | inl _ =>
        refine z_cXSv C kl_Waves_56 (c_Waves_checkWithin X.1 h5) rfl rfl (Nat.le_of_ble_eq_true rfl) ⟨(Nat.le_of_ble_eq_true rfl), (Nat.le_of_ble_eq_true rfl)⟩ ⟨(Nat.le_of_ble_eq_true rfl), (Nat.le_of_ble_eq_true rfl)⟩ d_Waves_addHouse_19 ?_
        refine z_iload C d_Waves_addHouse_22 4 rfl ?_
        refine z_iconst C d_Waves_addHouse_24 zki_0 ?_
        refine z_sipush C d_Waves_addHouse_25 zks_999 ?_
        obtain ⟨q8, h7, hf⟩ := bd_s hf
        cases q8 with
        | inr E18 =>
          cases hf
          exact z_tXSv C kl_Waves_56 (c_Waves_checkWithin X.1 h7) rfl rfl (Nat.le_of_ble_eq_true rfl) ⟨(Nat.le_of_ble_eq_true rfl), (Nat.le_of_ble_eq_true rfl)⟩ ⟨(Nat.le_of_ble_eq_true rfl), (Nat.le_of_ble_eq_true rfl)⟩ d_Waves_addHouse_28 X rfl (Nat.le_of_ble_eq_true rfl) (Nat.le_of_ble_eq_true rfl)
        | inl _ =>
          refine z_cXSv C kl_Waves_56 (c_Waves_checkWithin X.1 h7) rfl rfl (Nat.le_of_ble_eq_true rfl) ⟨(Nat.le_of_ble_eq_true rfl), (Nat.le_of_ble_eq_true rfl)⟩ ⟨(Nat.le_of_ble_eq_true rfl), (Nat.le_of_ble_eq_true rfl)⟩ d_Waves_addHouse_28 ?_
          refine z_iload C d_Waves_addHouse_31 5 rfl ?_
          refine z_iconst C d_Waves_addHouse_33 zki_1 ?_
          refine z_bipush C d_Waves_addHouse_34 zkb_9 ?_
          obtain ⟨q10, h9, hf⟩ := bd_s hf
          cases q10 with
          | inr E17 =>
            cases hf
            exact z_tXSv C kl_Waves_56 (c_Waves_checkWithin X.1 h9) rfl rfl (Nat.le_of_ble_eq_true rfl) ⟨(Nat.le_of_ble_eq_true rfl), (Nat.le_of_ble_eq_true rfl)⟩ ⟨(Nat.le_of_ble_eq_true rfl), (Nat.le_of_ble_eq_true rfl)⟩ d_Waves_addHouse_36 X rfl (Nat.le_of_ble_eq_true rfl) (Nat.le_of_ble_eq_true rfl)
          | inl _ =>
            refine z_cXSv C kl_Waves_56 (c_Waves_checkWithin X.1 h9) rfl rfl (Nat.le_of_ble_eq_true rfl) ⟨(Nat.le_of_ble_eq_true rfl), (Nat.le_of_ble_eq_true rfl)⟩ ⟨(Nat.le_of_ble_eq_true rfl), (Nat.le_of_ble_eq_true rfl)⟩ d_Waves_addHouse_36 ?_
            refine z_aload_n C d_Waves_addHouse_39 0 rfl rfl ?_
            refine gf_Waves_10 C (zx4 hx 70 rfl) rfl rfl d_Waves_addHouse_40 ?_
            refine gf_Waves_68 C (zlv (zxv hx 0 rfl) 0 rfl) rfl rfl d_Waves_addHouse_43 ?_
            obtain ⟨r12, h11, hf⟩ := bd_s hf
            refine z_cVi C kl_Waves_83 rfl (c_Homes_isFull (zxv hx 0 rfl) h11) (zlv (zxv hx 0 rfl) 3 rfl) rfl rfl rfl (Nat.le_of_ble_eq_true rfl) ⟨(Nat.le_of_ble_eq_true rfl), (Nat.le_of_ble_eq_true rfl)⟩ ⟨(Nat.le_of_ble_eq_true rfl), (Nat.le_of_ble_eq_true rfl)⟩ d_Waves_addHouse_46 ?_
            refine z_if_eq (tgt := 62) C d_Waves_addHouse_49 rfl (fun h16 => ?_) (fun h16 => ?_)
            · have hf := iff_t hf h16
              refine z_aload_n C d_Waves_addHouse_62 0 rfl rfl ?_
              refine gf_Waves_10 C (zx4 hx 70 rfl) rfl rfl d_Waves_addHouse_63 ?_
              refine gf_Waves_68 C (zlv (zxv hx 0 rfl) 0 rfl) rfl rfl d_Waves_addHouse_66 ?_
              refine z_iload_n C d_Waves_addHouse_69 1 rfl rfl ?_
              refine z_iload_n C d_Waves_addHouse_70 2 rfl rfl ?_
              refine z_iload_n C d_Waves_addHouse_71 3 rfl rfl ?_
              refine z_iload C d_Waves_addHouse_72 4 rfl ?_
              refine z_iload C d_Waves_addHouse_74 5 rfl ?_
              obtain ⟨r14, σ15, h13, hf⟩ := bd2_s hf
              refine z_cVi C kl_Waves_89 rfl (c_Homes_add (zxv hx 0 rfl) h13) (zlv (zxv hx 0 rfl) 3 rfl) rfl rfl rfl (Nat.le_of_ble_eq_true rfl) ⟨(Nat.le_of_ble_eq_true rfl), (Nat.le_of_ble_eq_true rfl)⟩ ⟨(Nat.le_of_ble_eq_true rfl), (Nat.le_of_ble_eq_true rfl)⟩ d_Waves_addHouse_76 ?_
              cases hf
              refine z_xret rfl ?_
              exact z_iret C rfl (Nat.le_of_ble_eq_true rfl) (Nat.le_of_ble_eq_true rfl) d_Waves_addHouse_79
            · have hf := iff_f hf h16
              cases hf
              exact zth_49_87 C X rfl d_Waves_addHouse_52 d_Waves_addHouse_55 d_Waves_addHouse_56 d_Waves_addHouse_58 d_Waves_addHouse_61 (Nat.le_of_ble_eq_true rfl) (Nat.le_of_ble_eq_true rfl) (Nat.le_of_ble_eq_true rfl) (Nat.le_of_ble_eq_true rfl) (Nat.le_of_ble_eq_true rfl) (Nat.le_of_ble_eq_true rfl)
abbrev rm_Waves_checkHouse : Room := { frames := 6, cells := 1, slots := 6, locals := 92 }
theorem d_Waves_checkHouse_0 : decode b_Waves_checkHouse 0 = .ok (.iload_n 1, 1) := by decide +kernel
theorem d_Waves_checkHouse_1 : decode b_Waves_checkHouse 1 = .ok (.ifCond .lt 17, 3) := by decide +kernel
theorem d_Waves_checkHouse_4 : decode b_Waves_checkHouse 4 = .ok (.iload_n 1, 1) := by decide +kernel
theorem d_Waves_checkHouse_5 : decode b_Waves_checkHouse 5 = .ok (.aload_n 0, 1) := by decide +kernel
theorem d_Waves_checkHouse_6 : decode b_Waves_checkHouse 6 = .ok (.getfield 10, 3) := by decide +kernel
theorem d_Waves_checkHouse_9 : decode b_Waves_checkHouse 9 = .ok (.getfield 68, 3) := by decide +kernel
theorem d_Waves_checkHouse_12 : decode b_Waves_checkHouse 12 = .ok (.getfield 72, 3) := by decide +kernel
theorem d_Waves_checkHouse_15 : decode b_Waves_checkHouse 15 = .ok (.if_icmp .lt 14, 3) := by decide +kernel
theorem d_Waves_checkHouse_18 : decode b_Waves_checkHouse 18 = .ok (.new 222, 3) := by decide +kernel
theorem d_Waves_checkHouse_21 : decode b_Waves_checkHouse 21 = .ok (.dup, 1) := by decide +kernel
theorem d_Waves_checkHouse_22 : decode b_Waves_checkHouse 22 = .ok (.ldc_w 345, 3) := by decide +kernel
theorem d_Waves_checkHouse_25 : decode b_Waves_checkHouse 25 = .ok (.invokespecial 226, 3) := by decide +kernel
theorem d_Waves_checkHouse_28 : decode b_Waves_checkHouse 28 = .ok (.athrow, 1) := by decide +kernel
theorem d_Waves_checkHouse_29 : decode b_Waves_checkHouse 29 = .ok (.return_, 1) := by decide +kernel
def F_Waves_checkHouse (a0 : Int32) (σ : zSt) : Option ((Unit) ⊕ String) :=
  if a0 < 0 then some (.inr "java/lang/IndexOutOfBoundsException") else (if a0 < (σ.1 0 3 0) then some (.inl ()) else some (.inr "java/lang/IndexOutOfBoundsException"))
set_option maxHeartbeats 4000000 in
set_option maxRecDepth 100000 in
theorem c_Waves_checkHouse {l : Launch} (hst : l.stackTraces = false) {G : zLA} (hx : zxl G) {a0 : Int32} {σ : zSt} {out : (Unit) ⊕ String} (hf : F_Waves_checkHouse a0 σ = some out) : zX l G y_Waves_checkHouse (zws y_Waves_checkHouse b_Waves_checkHouse 2 none) rm_Waves_checkHouse [.ref (zad G 4 70), .int a0] σ (cv_pu out σ) := by
  refine z_ofX (own := "VillageWaves") (lv := [(0, .ref (zad G 4 70)), (1, .int a0)]) (by decide +kernel) rfl rfl (Nat.le_of_ble_eq_true rfl) (fun p e s m args below meth c C X0 => ?_)
  have X : zXx l c := ⟨hst, X0⟩
  rw [F_Waves_checkHouse] at hf
  refine z_iload_n C d_Waves_checkHouse_0 1 rfl rfl ?_
  refine z_if_lt (tgt := 18) C d_Waves_checkHouse_1 rfl (fun h2 => ?_) (fun h2 => ?_)
  · have hf := iff_t hf h2
    cases hf
    exact zth_226_345 C X rfl d_Waves_checkHouse_18 d_Waves_checkHouse_21 d_Waves_checkHouse_22 d_Waves_checkHouse_25 d_Waves_checkHouse_28 (Nat.le_of_ble_eq_true rfl) (Nat.le_of_ble_eq_true rfl) (Nat.le_of_ble_eq_true rfl) (Nat.le_of_ble_eq_true rfl) (Nat.le_of_ble_eq_true rfl) (Nat.le_of_ble_eq_true rfl)
  · have hf := iff_f hf h2
    refine z_iload_n C d_Waves_checkHouse_4 1 rfl rfl ?_
    refine z_aload_n C d_Waves_checkHouse_5 0 rfl rfl ?_
    refine gf_Waves_10 C (zx4 hx 70 rfl) rfl rfl d_Waves_checkHouse_6 ?_
    refine gf_Waves_68 C (zlv (zxv hx 0 rfl) 0 rfl) rfl rfl d_Waves_checkHouse_9 ?_
    refine gf_Waves_72 C (zlv (zxv hx 0 rfl) 3 rfl) rfl rfl d_Waves_checkHouse_12 ?_
    refine z_icmp_lt (tgt := 29) C d_Waves_checkHouse_15 rfl (fun h1 => ?_) (fun h1 => ?_)
    · have hf := iff_t hf h1
      cases hf
      refine z_xret rfl ?_
      exact z_vret C rfl (Nat.le_of_ble_eq_true rfl) (Nat.le_of_ble_eq_true rfl) d_Waves_checkHouse_29
    · have hf := iff_f hf h1
      cases hf
      exact zth_226_345 C X rfl d_Waves_checkHouse_18 d_Waves_checkHouse_21 d_Waves_checkHouse_22 d_Waves_checkHouse_25 d_Waves_checkHouse_28 (Nat.le_of_ble_eq_true rfl) (Nat.le_of_ble_eq_true rfl) (Nat.le_of_ble_eq_true rfl) (Nat.le_of_ble_eq_true rfl) (Nat.le_of_ble_eq_true rfl) (Nat.le_of_ble_eq_true rfl)
abbrev rm_Waves_setQuiet : Room := { frames := 7, cells := 4, slots := 24, locals := 114 }
theorem d_Waves_setQuiet_0 : decode b_Waves_setQuiet 0 = .ok (.aload_n 0, 1) := by decide +kernel
theorem d_Waves_setQuiet_1 : decode b_Waves_setQuiet 1 = .ok (.iload_n 1, 1) := by decide +kernel
theorem d_Waves_setQuiet_2 : decode b_Waves_setQuiet 2 = .ok (.invokevirtual 93, 3) := by decide +kernel
theorem d_Waves_setQuiet_5 : decode b_Waves_setQuiet 5 = .ok (.iload_n 2, 1) := by decide +kernel
theorem d_Waves_setQuiet_6 : decode b_Waves_setQuiet 6 = .ok (.iconst (-1), 1) := by decide +kernel
theorem d_Waves_setQuiet_7 : decode b_Waves_setQuiet 7 = .ok (.aload_n 0, 1) := by decide +kernel
theorem d_Waves_setQuiet_8 : decode b_Waves_setQuiet 8 = .ok (.getfield 10, 3) := by decide +kernel
theorem d_Waves_setQuiet_11 : decode b_Waves_setQuiet 11 = .ok (.getfield 96, 3) := by decide +kernel
theorem d_Waves_setQuiet_14 : decode b_Waves_setQuiet 14 = .ok (.iconst 1, 1) := by decide +kernel
theorem d_Waves_setQuiet_15 : decode b_Waves_setQuiet 15 = .ok (.isub, 1) := by decide +kernel
theorem d_Waves_setQuiet_16 : decode b_Waves_setQuiet 16 = .ok (.invokestatic 56, 3) := by decide +kernel
theorem d_Waves_setQuiet_19 : decode b_Waves_setQuiet 19 = .ok (.iload_n 3, 1) := by decide +kernel
theorem d_Waves_setQuiet_20 : decode b_Waves_setQuiet 20 = .ok (.iconst (-1), 1) := by decide +kernel
theorem d_Waves_setQuiet_21 : decode b_Waves_setQuiet 21 = .ok (.aload_n 0, 1) := by decide +kernel
theorem d_Waves_setQuiet_22 : decode b_Waves_setQuiet 22 = .ok (.getfield 10, 3) := by decide +kernel
theorem d_Waves_setQuiet_25 : decode b_Waves_setQuiet 25 = .ok (.getfield 96, 3) := by decide +kernel
theorem d_Waves_setQuiet_28 : decode b_Waves_setQuiet 28 = .ok (.iconst 1, 1) := by decide +kernel
theorem d_Waves_setQuiet_29 : decode b_Waves_setQuiet 29 = .ok (.isub, 1) := by decide +kernel
theorem d_Waves_setQuiet_30 : decode b_Waves_setQuiet 30 = .ok (.invokestatic 56, 3) := by decide +kernel
theorem d_Waves_setQuiet_33 : decode b_Waves_setQuiet 33 = .ok (.iload_n 2, 1) := by decide +kernel
theorem d_Waves_setQuiet_34 : decode b_Waves_setQuiet 34 = .ok (.iconst (-1), 1) := by decide +kernel
theorem d_Waves_setQuiet_35 : decode b_Waves_setQuiet 35 = .ok (.if_icmp .ne 7, 3) := by decide +kernel
theorem d_Waves_setQuiet_38 : decode b_Waves_setQuiet 38 = .ok (.iconst 1, 1) := by decide +kernel
theorem d_Waves_setQuiet_39 : decode b_Waves_setQuiet 39 = .ok (.goto 4, 3) := by decide +kernel
theorem d_Waves_setQuiet_42 : decode b_Waves_setQuiet 42 = .ok (.iconst 0, 1) := by decide +kernel
theorem d_Waves_setQuiet_43 : decode b_Waves_setQuiet 43 = .ok (.iload_n 3, 1) := by decide +kernel
theorem d_Waves_setQuiet_44 : decode b_Waves_setQuiet 44 = .ok (.iconst (-1), 1) := by decide +kernel
theorem d_Waves_setQuiet_45 : decode b_Waves_setQuiet 45 = .ok (.if_icmp .ne 7, 3) := by decide +kernel
theorem d_Waves_setQuiet_48 : decode b_Waves_setQuiet 48 = .ok (.iconst 1, 1) := by decide +kernel
theorem d_Waves_setQuiet_49 : decode b_Waves_setQuiet 49 = .ok (.goto 4, 3) := by decide +kernel
theorem d_Waves_setQuiet_52 : decode b_Waves_setQuiet 52 = .ok (.iconst 0, 1) := by decide +kernel
theorem d_Waves_setQuiet_53 : decode b_Waves_setQuiet 53 = .ok (.if_icmp .eq 13, 3) := by decide +kernel
theorem d_Waves_setQuiet_56 : decode b_Waves_setQuiet 56 = .ok (.new 99, 3) := by decide +kernel
theorem d_Waves_setQuiet_59 : decode b_Waves_setQuiet 59 = .ok (.dup, 1) := by decide +kernel
theorem d_Waves_setQuiet_60 : decode b_Waves_setQuiet 60 = .ok (.ldc 101, 2) := by decide +kernel
theorem d_Waves_setQuiet_62 : decode b_Waves_setQuiet 62 = .ok (.invokespecial 103, 3) := by decide +kernel
theorem d_Waves_setQuiet_65 : decode b_Waves_setQuiet 65 = .ok (.athrow, 1) := by decide +kernel
theorem d_Waves_setQuiet_66 : decode b_Waves_setQuiet 66 = .ok (.aload_n 0, 1) := by decide +kernel
theorem d_Waves_setQuiet_67 : decode b_Waves_setQuiet 67 = .ok (.getfield 10, 3) := by decide +kernel
theorem d_Waves_setQuiet_70 : decode b_Waves_setQuiet 70 = .ok (.getfield 68, 3) := by decide +kernel
theorem d_Waves_setQuiet_73 : decode b_Waves_setQuiet 73 = .ok (.getfield 104, 3) := by decide +kernel
theorem d_Waves_setQuiet_76 : decode b_Waves_setQuiet 76 = .ok (.iload_n 1, 1) := by decide +kernel
theorem d_Waves_setQuiet_77 : decode b_Waves_setQuiet 77 = .ok (.iload_n 2, 1) := by decide +kernel
theorem d_Waves_setQuiet_78 : decode b_Waves_setQuiet 78 = .ok (.invokevirtual 108, 3) := by decide +kernel
theorem d_Waves_setQuiet_81 : decode b_Waves_setQuiet 81 = .ok (.aload_n 0, 1) := by decide +kernel
theorem d_Waves_setQuiet_82 : decode b_Waves_setQuiet 82 = .ok (.getfield 10, 3) := by decide +kernel
theorem d_Waves_setQuiet_85 : decode b_Waves_setQuiet 85 = .ok (.getfield 68, 3) := by decide +kernel
theorem d_Waves_setQuiet_88 : decode b_Waves_setQuiet 88 = .ok (.getfield 114, 3) := by decide +kernel
theorem d_Waves_setQuiet_91 : decode b_Waves_setQuiet 91 = .ok (.iload_n 1, 1) := by decide +kernel
theorem d_Waves_setQuiet_92 : decode b_Waves_setQuiet 92 = .ok (.iload_n 3, 1) := by decide +kernel
theorem d_Waves_setQuiet_93 : decode b_Waves_setQuiet 93 = .ok (.invokevirtual 108, 3) := by decide +kernel
theorem d_Waves_setQuiet_96 : decode b_Waves_setQuiet 96 = .ok (.return_, 1) := by decide +kernel
def F_Waves_setQuiet (a0 : Int32) (a1 : Int32) (a2 : Int32) (σ : zSt) : Option ((zSt) ⊕ String) :=
  (F_Waves_checkHouse a0 σ).bind fun q2 => match q2 with | .inr E32 => some (.inr E32) | .inl _ => (F_Waves_checkWithin a1 (-1 : Int32) ((σ.1 0 0 0) - (1 : Int32)) σ).bind fun q4 => match q4 with | .inr E31 => some (.inr E31) | .inl _ => (F_Waves_checkWithin a2 (-1 : Int32) ((σ.1 0 0 0) - (1 : Int32)) σ).bind fun q6 => match q6 with | .inr E30 => some (.inr E30) | .inl _ => if a1 = (-1 : Int32) then (if a2 = (-1 : Int32) then (if (1 : Int32) = (1 : Int32) then ((F_Row_put 0 14 a0 a1 σ).bind fun σ24 => (F_Row_put 0 16 a0 a2 σ24).bind fun σ26 => some (.inl σ26)) else some (.inr "java/lang/IllegalArgumentException")) else (if (1 : Int32) = (0 : Int32) then ((F_Row_put 0 14 a0 a1 σ).bind fun σ19 => (F_Row_put 0 16 a0 a2 σ19).bind fun σ21 => some (.inl σ21)) else some (.inr "java/lang/IllegalArgumentException"))) else (if a2 = (-1 : Int32) then (if (0 : Int32) = (1 : Int32) then ((F_Row_put 0 14 a0 a1 σ).bind fun σ13 => (F_Row_put 0 16 a0 a2 σ13).bind fun σ15 => some (.inl σ15)) else some (.inr "java/lang/IllegalArgumentException")) else (if (0 : Int32) = (0 : Int32) then ((F_Row_put 0 14 a0 a1 σ).bind fun σ8 => (F_Row_put 0 16 a0 a2 σ8).bind fun σ10 => some (.inl σ10)) else some (.inr "java/lang/IllegalArgumentException")))
set_option maxHeartbeats 4000000 in
set_option maxRecDepth 100000 in
theorem c_Waves_setQuiet {l : Launch} (hst : l.stackTraces = false) {G : zLA} (hx : zxl G) {a0 : Int32} {a1 : Int32} {a2 : Int32} {σ : zSt} {out : (zSt) ⊕ String} (hf : F_Waves_setQuiet a0 a1 a2 σ = some out) : zX l G y_Waves_setQuiet (zws y_Waves_setQuiet b_Waves_setQuiet 4 none) rm_Waves_setQuiet [.ref (zad G 4 70), .int a0, .int a1, .int a2] σ (cv_wu out σ) := by
  refine z_ofX (own := "VillageWaves") (lv := [(0, .ref (zad G 4 70)), (1, .int a0), (2, .int a1), (3, .int a2)]) (by decide +kernel) rfl rfl (Nat.le_of_ble_eq_true rfl) (fun p e s m args below meth c C X0 => ?_)
  have X : zXx l c := ⟨hst, X0⟩
  rw [F_Waves_setQuiet] at hf
  refine z_aload_n C d_Waves_setQuiet_0 0 rfl rfl ?_
  refine z_iload_n C d_Waves_setQuiet_1 1 rfl rfl ?_
  obtain ⟨q2, h1, hf⟩ := bd_s hf
  cases q2 with
  | inr E32 =>
    cases hf
    exact z_tXVv C kl_Waves_93 rfl (c_Waves_checkHouse X.1 hx h1) (zx4 hx 70 rfl) rfl rfl rfl (Nat.le_of_ble_eq_true rfl) ⟨(Nat.le_of_ble_eq_true rfl), (Nat.le_of_ble_eq_true rfl)⟩ ⟨(Nat.le_of_ble_eq_true rfl), (Nat.le_of_ble_eq_true rfl)⟩ d_Waves_setQuiet_2 X rfl (Nat.le_of_ble_eq_true rfl) (Nat.le_of_ble_eq_true rfl)
  | inl _ =>
    refine z_cXVv C kl_Waves_93 rfl (c_Waves_checkHouse X.1 hx h1) (zx4 hx 70 rfl) rfl rfl rfl (Nat.le_of_ble_eq_true rfl) ⟨(Nat.le_of_ble_eq_true rfl), (Nat.le_of_ble_eq_true rfl)⟩ ⟨(Nat.le_of_ble_eq_true rfl), (Nat.le_of_ble_eq_true rfl)⟩ d_Waves_setQuiet_2 ?_
    refine z_iload_n C d_Waves_setQuiet_5 2 rfl rfl ?_
    refine z_iconst C d_Waves_setQuiet_6 zki_m1 ?_
    refine z_aload_n C d_Waves_setQuiet_7 0 rfl rfl ?_
    refine gf_Waves_10 C (zx4 hx 70 rfl) rfl rfl d_Waves_setQuiet_8 ?_
    refine gf_Waves_96 C (zlv (zxv hx 0 rfl) 0 rfl) rfl rfl d_Waves_setQuiet_11 ?_
    refine z_iconst C d_Waves_setQuiet_14 zki_1 ?_
    refine z_isub C d_Waves_setQuiet_15 ?_
    obtain ⟨q4, h3, hf⟩ := bd_s hf
    cases q4 with
    | inr E31 =>
      cases hf
      exact z_tXSv C kl_Waves_56 (c_Waves_checkWithin X.1 h3) rfl rfl (Nat.le_of_ble_eq_true rfl) ⟨(Nat.le_of_ble_eq_true rfl), (Nat.le_of_ble_eq_true rfl)⟩ ⟨(Nat.le_of_ble_eq_true rfl), (Nat.le_of_ble_eq_true rfl)⟩ d_Waves_setQuiet_16 X rfl (Nat.le_of_ble_eq_true rfl) (Nat.le_of_ble_eq_true rfl)
    | inl _ =>
      refine z_cXSv C kl_Waves_56 (c_Waves_checkWithin X.1 h3) rfl rfl (Nat.le_of_ble_eq_true rfl) ⟨(Nat.le_of_ble_eq_true rfl), (Nat.le_of_ble_eq_true rfl)⟩ ⟨(Nat.le_of_ble_eq_true rfl), (Nat.le_of_ble_eq_true rfl)⟩ d_Waves_setQuiet_16 ?_
      refine z_iload_n C d_Waves_setQuiet_19 3 rfl rfl ?_
      refine z_iconst C d_Waves_setQuiet_20 zki_m1 ?_
      refine z_aload_n C d_Waves_setQuiet_21 0 rfl rfl ?_
      refine gf_Waves_10 C (zx4 hx 70 rfl) rfl rfl d_Waves_setQuiet_22 ?_
      refine gf_Waves_96 C (zlv (zxv hx 0 rfl) 0 rfl) rfl rfl d_Waves_setQuiet_25 ?_
      refine z_iconst C d_Waves_setQuiet_28 zki_1 ?_
      refine z_isub C d_Waves_setQuiet_29 ?_
      obtain ⟨q6, h5, hf⟩ := bd_s hf
      cases q6 with
      | inr E30 =>
        cases hf
        exact z_tXSv C kl_Waves_56 (c_Waves_checkWithin X.1 h5) rfl rfl (Nat.le_of_ble_eq_true rfl) ⟨(Nat.le_of_ble_eq_true rfl), (Nat.le_of_ble_eq_true rfl)⟩ ⟨(Nat.le_of_ble_eq_true rfl), (Nat.le_of_ble_eq_true rfl)⟩ d_Waves_setQuiet_30 X rfl (Nat.le_of_ble_eq_true rfl) (Nat.le_of_ble_eq_true rfl)
      | inl _ =>
        refine z_cXSv C kl_Waves_56 (c_Waves_checkWithin X.1 h5) rfl rfl (Nat.le_of_ble_eq_true rfl) ⟨(Nat.le_of_ble_eq_true rfl), (Nat.le_of_ble_eq_true rfl)⟩ ⟨(Nat.le_of_ble_eq_true rfl), (Nat.le_of_ble_eq_true rfl)⟩ d_Waves_setQuiet_30 ?_
        refine z_iload_n C d_Waves_setQuiet_33 2 rfl rfl ?_
        refine z_iconst C d_Waves_setQuiet_34 zki_m1 ?_
        refine z_icmp_ne (tgt := 42) C d_Waves_setQuiet_35 rfl (fun h29 => ?_) (fun h29 => ?_)
        · have hf := iff_f hf h29
          refine z_iconst C d_Waves_setQuiet_42 zki_0 ?_
          refine z_iload_n C d_Waves_setQuiet_43 3 rfl rfl ?_
          refine z_iconst C d_Waves_setQuiet_44 zki_m1 ?_
          refine z_icmp_ne (tgt := 52) C d_Waves_setQuiet_45 rfl (fun h17 => ?_) (fun h17 => ?_)
          · have hf := iff_f hf h17
            refine z_iconst C d_Waves_setQuiet_52 zki_0 ?_
            refine z_icmp_eq (tgt := 66) C d_Waves_setQuiet_53 rfl (fun h11 => ?_) (fun h11 => ?_)
            · have hf := iff_t hf h11
              refine z_aload_n C d_Waves_setQuiet_66 0 rfl rfl ?_
              refine gf_Waves_10 C (zx4 hx 70 rfl) rfl rfl d_Waves_setQuiet_67 ?_
              refine gf_Waves_68 C (zlv (zxv hx 0 rfl) 0 rfl) rfl rfl d_Waves_setQuiet_70 ?_
              refine gf_Waves_104 C (zlv (zxv hx 0 rfl) 3 rfl) rfl rfl d_Waves_setQuiet_73 ?_
              refine z_iload_n C d_Waves_setQuiet_76 1 rfl rfl ?_
              refine z_iload_n C d_Waves_setQuiet_77 2 rfl rfl ?_
              obtain ⟨σ8, h7, hf⟩ := bd_s hf
              refine z_cVv C kl_Waves_108 rfl (c_Row_put (zrow_v (zxv hx 0 rfl) 14 rfl) h7) (zlv (zxv hx 0 rfl) 14 rfl) rfl rfl rfl (Nat.le_of_ble_eq_true rfl) ⟨(Nat.le_of_ble_eq_true rfl), (Nat.le_of_ble_eq_true rfl)⟩ ⟨(Nat.le_of_ble_eq_true rfl), (Nat.le_of_ble_eq_true rfl)⟩ d_Waves_setQuiet_78 ?_
              refine z_aload_n C d_Waves_setQuiet_81 0 rfl rfl ?_
              refine gf_Waves_10 C (zx4 hx 70 rfl) rfl rfl d_Waves_setQuiet_82 ?_
              refine gf_Waves_68 C (zlv (zxv hx 0 rfl) 0 rfl) rfl rfl d_Waves_setQuiet_85 ?_
              refine gf_Waves_114 C (zlv (zxv hx 0 rfl) 3 rfl) rfl rfl d_Waves_setQuiet_88 ?_
              refine z_iload_n C d_Waves_setQuiet_91 1 rfl rfl ?_
              refine z_iload_n C d_Waves_setQuiet_92 3 rfl rfl ?_
              obtain ⟨σ10, h9, hf⟩ := bd_s hf
              refine z_cVv C kl_Waves_108 rfl (c_Row_put (zrow_v (zxv hx 0 rfl) 16 rfl) h9) (zlv (zxv hx 0 rfl) 16 rfl) rfl rfl rfl (Nat.le_of_ble_eq_true rfl) ⟨(Nat.le_of_ble_eq_true rfl), (Nat.le_of_ble_eq_true rfl)⟩ ⟨(Nat.le_of_ble_eq_true rfl), (Nat.le_of_ble_eq_true rfl)⟩ d_Waves_setQuiet_93 ?_
              cases hf
              refine z_xret rfl ?_
              exact z_vret C rfl (Nat.le_of_ble_eq_true rfl) (Nat.le_of_ble_eq_true rfl) d_Waves_setQuiet_96
            · have hf := iff_f hf h11
              cases hf
              exact zth_103_101 C X rfl d_Waves_setQuiet_56 d_Waves_setQuiet_59 d_Waves_setQuiet_60 d_Waves_setQuiet_62 d_Waves_setQuiet_65 (Nat.le_of_ble_eq_true rfl) (Nat.le_of_ble_eq_true rfl) (Nat.le_of_ble_eq_true rfl) (Nat.le_of_ble_eq_true rfl) (Nat.le_of_ble_eq_true rfl) (Nat.le_of_ble_eq_true rfl)
          · have hf := iff_t hf h17
            refine z_iconst C d_Waves_setQuiet_48 zki_1 ?_
            refine z_goto (tgt := 53) C d_Waves_setQuiet_49 rfl ?_
            refine z_icmp_eq (tgt := 66) C d_Waves_setQuiet_53 rfl (fun h16 => ?_) (fun h16 => ?_)
            · have hf := iff_t hf h16
              refine z_aload_n C d_Waves_setQuiet_66 0 rfl rfl ?_
              refine gf_Waves_10 C (zx4 hx 70 rfl) rfl rfl d_Waves_setQuiet_67 ?_
              refine gf_Waves_68 C (zlv (zxv hx 0 rfl) 0 rfl) rfl rfl d_Waves_setQuiet_70 ?_
              refine gf_Waves_104 C (zlv (zxv hx 0 rfl) 3 rfl) rfl rfl d_Waves_setQuiet_73 ?_
              refine z_iload_n C d_Waves_setQuiet_76 1 rfl rfl ?_
              refine z_iload_n C d_Waves_setQuiet_77 2 rfl rfl ?_
              obtain ⟨σ13, h12, hf⟩ := bd_s hf
              refine z_cVv C kl_Waves_108 rfl (c_Row_put (zrow_v (zxv hx 0 rfl) 14 rfl) h12) (zlv (zxv hx 0 rfl) 14 rfl) rfl rfl rfl (Nat.le_of_ble_eq_true rfl) ⟨(Nat.le_of_ble_eq_true rfl), (Nat.le_of_ble_eq_true rfl)⟩ ⟨(Nat.le_of_ble_eq_true rfl), (Nat.le_of_ble_eq_true rfl)⟩ d_Waves_setQuiet_78 ?_
              refine z_aload_n C d_Waves_setQuiet_81 0 rfl rfl ?_
              refine gf_Waves_10 C (zx4 hx 70 rfl) rfl rfl d_Waves_setQuiet_82 ?_
              refine gf_Waves_68 C (zlv (zxv hx 0 rfl) 0 rfl) rfl rfl d_Waves_setQuiet_85 ?_
              refine gf_Waves_114 C (zlv (zxv hx 0 rfl) 3 rfl) rfl rfl d_Waves_setQuiet_88 ?_
              refine z_iload_n C d_Waves_setQuiet_91 1 rfl rfl ?_
              refine z_iload_n C d_Waves_setQuiet_92 3 rfl rfl ?_
              obtain ⟨σ15, h14, hf⟩ := bd_s hf
              refine z_cVv C kl_Waves_108 rfl (c_Row_put (zrow_v (zxv hx 0 rfl) 16 rfl) h14) (zlv (zxv hx 0 rfl) 16 rfl) rfl rfl rfl (Nat.le_of_ble_eq_true rfl) ⟨(Nat.le_of_ble_eq_true rfl), (Nat.le_of_ble_eq_true rfl)⟩ ⟨(Nat.le_of_ble_eq_true rfl), (Nat.le_of_ble_eq_true rfl)⟩ d_Waves_setQuiet_93 ?_
              cases hf
              refine z_xret rfl ?_
              exact z_vret C rfl (Nat.le_of_ble_eq_true rfl) (Nat.le_of_ble_eq_true rfl) d_Waves_setQuiet_96
            · have hf := iff_f hf h16
              cases hf
              exact zth_103_101 C X rfl d_Waves_setQuiet_56 d_Waves_setQuiet_59 d_Waves_setQuiet_60 d_Waves_setQuiet_62 d_Waves_setQuiet_65 (Nat.le_of_ble_eq_true rfl) (Nat.le_of_ble_eq_true rfl) (Nat.le_of_ble_eq_true rfl) (Nat.le_of_ble_eq_true rfl) (Nat.le_of_ble_eq_true rfl) (Nat.le_of_ble_eq_true rfl)
        · have hf := iff_t hf h29
          refine z_iconst C d_Waves_setQuiet_38 zki_1 ?_
          refine z_goto (tgt := 43) C d_Waves_setQuiet_39 rfl ?_
          refine z_iload_n C d_Waves_setQuiet_43 3 rfl rfl ?_
          refine z_iconst C d_Waves_setQuiet_44 zki_m1 ?_
          refine z_icmp_ne (tgt := 52) C d_Waves_setQuiet_45 rfl (fun h28 => ?_) (fun h28 => ?_)
          · have hf := iff_f hf h28
            refine z_iconst C d_Waves_setQuiet_52 zki_0 ?_
            refine z_icmp_eq (tgt := 66) C d_Waves_setQuiet_53 rfl (fun h22 => ?_) (fun h22 => ?_)
            · have hf := iff_t hf h22
              refine z_aload_n C d_Waves_setQuiet_66 0 rfl rfl ?_
              refine gf_Waves_10 C (zx4 hx 70 rfl) rfl rfl d_Waves_setQuiet_67 ?_
              refine gf_Waves_68 C (zlv (zxv hx 0 rfl) 0 rfl) rfl rfl d_Waves_setQuiet_70 ?_
              refine gf_Waves_104 C (zlv (zxv hx 0 rfl) 3 rfl) rfl rfl d_Waves_setQuiet_73 ?_
              refine z_iload_n C d_Waves_setQuiet_76 1 rfl rfl ?_
              refine z_iload_n C d_Waves_setQuiet_77 2 rfl rfl ?_
              obtain ⟨σ19, h18, hf⟩ := bd_s hf
              refine z_cVv C kl_Waves_108 rfl (c_Row_put (zrow_v (zxv hx 0 rfl) 14 rfl) h18) (zlv (zxv hx 0 rfl) 14 rfl) rfl rfl rfl (Nat.le_of_ble_eq_true rfl) ⟨(Nat.le_of_ble_eq_true rfl), (Nat.le_of_ble_eq_true rfl)⟩ ⟨(Nat.le_of_ble_eq_true rfl), (Nat.le_of_ble_eq_true rfl)⟩ d_Waves_setQuiet_78 ?_
              refine z_aload_n C d_Waves_setQuiet_81 0 rfl rfl ?_
              refine gf_Waves_10 C (zx4 hx 70 rfl) rfl rfl d_Waves_setQuiet_82 ?_
              refine gf_Waves_68 C (zlv (zxv hx 0 rfl) 0 rfl) rfl rfl d_Waves_setQuiet_85 ?_
              refine gf_Waves_114 C (zlv (zxv hx 0 rfl) 3 rfl) rfl rfl d_Waves_setQuiet_88 ?_
              refine z_iload_n C d_Waves_setQuiet_91 1 rfl rfl ?_
              refine z_iload_n C d_Waves_setQuiet_92 3 rfl rfl ?_
              obtain ⟨σ21, h20, hf⟩ := bd_s hf
              refine z_cVv C kl_Waves_108 rfl (c_Row_put (zrow_v (zxv hx 0 rfl) 16 rfl) h20) (zlv (zxv hx 0 rfl) 16 rfl) rfl rfl rfl (Nat.le_of_ble_eq_true rfl) ⟨(Nat.le_of_ble_eq_true rfl), (Nat.le_of_ble_eq_true rfl)⟩ ⟨(Nat.le_of_ble_eq_true rfl), (Nat.le_of_ble_eq_true rfl)⟩ d_Waves_setQuiet_93 ?_
              cases hf
              refine z_xret rfl ?_
              exact z_vret C rfl (Nat.le_of_ble_eq_true rfl) (Nat.le_of_ble_eq_true rfl) d_Waves_setQuiet_96
            · have hf := iff_f hf h22
              cases hf
              exact zth_103_101 C X rfl d_Waves_setQuiet_56 d_Waves_setQuiet_59 d_Waves_setQuiet_60 d_Waves_setQuiet_62 d_Waves_setQuiet_65 (Nat.le_of_ble_eq_true rfl) (Nat.le_of_ble_eq_true rfl) (Nat.le_of_ble_eq_true rfl) (Nat.le_of_ble_eq_true rfl) (Nat.le_of_ble_eq_true rfl) (Nat.le_of_ble_eq_true rfl)
          · have hf := iff_t hf h28
            refine z_iconst C d_Waves_setQuiet_48 zki_1 ?_
            refine z_goto (tgt := 53) C d_Waves_setQuiet_49 rfl ?_
            refine z_icmp_eq (tgt := 66) C d_Waves_setQuiet_53 rfl (fun h27 => ?_) (fun h27 => ?_)
            · have hf := iff_t hf h27
              refine z_aload_n C d_Waves_setQuiet_66 0 rfl rfl ?_
              refine gf_Waves_10 C (zx4 hx 70 rfl) rfl rfl d_Waves_setQuiet_67 ?_
              refine gf_Waves_68 C (zlv (zxv hx 0 rfl) 0 rfl) rfl rfl d_Waves_setQuiet_70 ?_
              refine gf_Waves_104 C (zlv (zxv hx 0 rfl) 3 rfl) rfl rfl d_Waves_setQuiet_73 ?_
              refine z_iload_n C d_Waves_setQuiet_76 1 rfl rfl ?_
              refine z_iload_n C d_Waves_setQuiet_77 2 rfl rfl ?_
              obtain ⟨σ24, h23, hf⟩ := bd_s hf
              refine z_cVv C kl_Waves_108 rfl (c_Row_put (zrow_v (zxv hx 0 rfl) 14 rfl) h23) (zlv (zxv hx 0 rfl) 14 rfl) rfl rfl rfl (Nat.le_of_ble_eq_true rfl) ⟨(Nat.le_of_ble_eq_true rfl), (Nat.le_of_ble_eq_true rfl)⟩ ⟨(Nat.le_of_ble_eq_true rfl), (Nat.le_of_ble_eq_true rfl)⟩ d_Waves_setQuiet_78 ?_
              refine z_aload_n C d_Waves_setQuiet_81 0 rfl rfl ?_
              refine gf_Waves_10 C (zx4 hx 70 rfl) rfl rfl d_Waves_setQuiet_82 ?_
              refine gf_Waves_68 C (zlv (zxv hx 0 rfl) 0 rfl) rfl rfl d_Waves_setQuiet_85 ?_
              refine gf_Waves_114 C (zlv (zxv hx 0 rfl) 3 rfl) rfl rfl d_Waves_setQuiet_88 ?_
              refine z_iload_n C d_Waves_setQuiet_91 1 rfl rfl ?_
              refine z_iload_n C d_Waves_setQuiet_92 3 rfl rfl ?_
              obtain ⟨σ26, h25, hf⟩ := bd_s hf
              refine z_cVv C kl_Waves_108 rfl (c_Row_put (zrow_v (zxv hx 0 rfl) 16 rfl) h25) (zlv (zxv hx 0 rfl) 16 rfl) rfl rfl rfl (Nat.le_of_ble_eq_true rfl) ⟨(Nat.le_of_ble_eq_true rfl), (Nat.le_of_ble_eq_true rfl)⟩ ⟨(Nat.le_of_ble_eq_true rfl), (Nat.le_of_ble_eq_true rfl)⟩ d_Waves_setQuiet_93 ?_
              cases hf
              refine z_xret rfl ?_
              exact z_vret C rfl (Nat.le_of_ble_eq_true rfl) (Nat.le_of_ble_eq_true rfl) d_Waves_setQuiet_96
            · have hf := iff_f hf h27
              cases hf
              exact zth_103_101 C X rfl d_Waves_setQuiet_56 d_Waves_setQuiet_59 d_Waves_setQuiet_60 d_Waves_setQuiet_62 d_Waves_setQuiet_65 (Nat.le_of_ble_eq_true rfl) (Nat.le_of_ble_eq_true rfl) (Nat.le_of_ble_eq_true rfl) (Nat.le_of_ble_eq_true rfl) (Nat.le_of_ble_eq_true rfl) (Nat.le_of_ble_eq_true rfl)
abbrev rm_Waves_charge : Room := { frames := 7, cells := 2, slots := 12, locals := 114 }
theorem d_Waves_charge_0 : decode b_Waves_charge 0 = .ok (.aload_n 0, 1) := by decide +kernel
theorem d_Waves_charge_1 : decode b_Waves_charge 1 = .ok (.iload_n 1, 1) := by decide +kernel
theorem d_Waves_charge_2 : decode b_Waves_charge 2 = .ok (.invokevirtual 93, 3) := by decide +kernel
theorem d_Waves_charge_5 : decode b_Waves_charge 5 = .ok (.iload_n 2, 1) := by decide +kernel
theorem d_Waves_charge_6 : decode b_Waves_charge 6 = .ok (.sipush (-999), 3) := by decide +kernel
theorem d_Waves_charge_9 : decode b_Waves_charge 9 = .ok (.sipush 999, 3) := by decide +kernel
theorem d_Waves_charge_12 : decode b_Waves_charge 12 = .ok (.invokestatic 56, 3) := by decide +kernel
theorem d_Waves_charge_15 : decode b_Waves_charge 15 = .ok (.aload_n 0, 1) := by decide +kernel
theorem d_Waves_charge_16 : decode b_Waves_charge 16 = .ok (.getfield 10, 3) := by decide +kernel
theorem d_Waves_charge_19 : decode b_Waves_charge 19 = .ok (.getfield 68, 3) := by decide +kernel
theorem d_Waves_charge_22 : decode b_Waves_charge 22 = .ok (.iload_n 1, 1) := by decide +kernel
theorem d_Waves_charge_23 : decode b_Waves_charge 23 = .ok (.iload_n 2, 1) := by decide +kernel
theorem d_Waves_charge_24 : decode b_Waves_charge 24 = .ok (.invokevirtual 117, 3) := by decide +kernel
theorem d_Waves_charge_27 : decode b_Waves_charge 27 = .ok (.aload_n 0, 1) := by decide +kernel
theorem d_Waves_charge_28 : decode b_Waves_charge 28 = .ok (.getfield 10, 3) := by decide +kernel
theorem d_Waves_charge_31 : decode b_Waves_charge 31 = .ok (.getfield 68, 3) := by decide +kernel
theorem d_Waves_charge_34 : decode b_Waves_charge 34 = .ok (.getfield 120, 3) := by decide +kernel
theorem d_Waves_charge_37 : decode b_Waves_charge 37 = .ok (.iload_n 1, 1) := by decide +kernel
theorem d_Waves_charge_38 : decode b_Waves_charge 38 = .ok (.invokevirtual 123, 3) := by decide +kernel
theorem d_Waves_charge_41 : decode b_Waves_charge 41 = .ok (.ireturn, 1) := by decide +kernel
def F_Waves_charge (a0 : Int32) (a1 : Int32) (σ : zSt) : Option ((Int32 × zSt) ⊕ String) :=
  (F_Waves_checkHouse a0 σ).bind fun q2 => match q2 with | .inr E10 => some (.inr E10) | .inl _ => (F_Waves_checkWithin a1 (-999 : Int32) (999 : Int32) σ).bind fun q4 => match q4 with | .inr E9 => some (.inr E9) | .inl _ => (F_Homes_addToBattery 0 a0 a1 σ).bind fun σ6 => (F_Row_get 0 10 a0 σ6).bind fun r8 => some (.inl (r8, σ6))
set_option maxHeartbeats 4000000 in
set_option maxRecDepth 100000 in
theorem c_Waves_charge {l : Launch} (hst : l.stackTraces = false) {G : zLA} (hx : zxl G) {a0 : Int32} {a1 : Int32} {σ : zSt} {out : (Int32 × zSt) ⊕ String} (hf : F_Waves_charge a0 a1 σ = some out) : zX l G y_Waves_charge (zws y_Waves_charge b_Waves_charge 3 (some .int)) rm_Waves_charge [.ref (zad G 4 70), .int a0, .int a1] σ (cv_wi out σ) := by
  refine z_ofX (own := "VillageWaves") (lv := [(0, .ref (zad G 4 70)), (1, .int a0), (2, .int a1)]) (by decide +kernel) rfl rfl (Nat.le_of_ble_eq_true rfl) (fun p e s m args below meth c C X0 => ?_)
  have X : zXx l c := ⟨hst, X0⟩
  rw [F_Waves_charge] at hf
  refine z_aload_n C d_Waves_charge_0 0 rfl rfl ?_
  refine z_iload_n C d_Waves_charge_1 1 rfl rfl ?_
  obtain ⟨q2, h1, hf⟩ := bd_s hf
  cases q2 with
  | inr E10 =>
    cases hf
    exact z_tXVv C kl_Waves_93 rfl (c_Waves_checkHouse X.1 hx h1) (zx4 hx 70 rfl) rfl rfl rfl (Nat.le_of_ble_eq_true rfl) ⟨(Nat.le_of_ble_eq_true rfl), (Nat.le_of_ble_eq_true rfl)⟩ ⟨(Nat.le_of_ble_eq_true rfl), (Nat.le_of_ble_eq_true rfl)⟩ d_Waves_charge_2 X rfl (Nat.le_of_ble_eq_true rfl) (Nat.le_of_ble_eq_true rfl)
  | inl _ =>
    refine z_cXVv C kl_Waves_93 rfl (c_Waves_checkHouse X.1 hx h1) (zx4 hx 70 rfl) rfl rfl rfl (Nat.le_of_ble_eq_true rfl) ⟨(Nat.le_of_ble_eq_true rfl), (Nat.le_of_ble_eq_true rfl)⟩ ⟨(Nat.le_of_ble_eq_true rfl), (Nat.le_of_ble_eq_true rfl)⟩ d_Waves_charge_2 ?_
    refine z_iload_n C d_Waves_charge_5 2 rfl rfl ?_
    refine z_sipush C d_Waves_charge_6 zks_m999 ?_
    refine z_sipush C d_Waves_charge_9 zks_999 ?_
    obtain ⟨q4, h3, hf⟩ := bd_s hf
    cases q4 with
    | inr E9 =>
      cases hf
      exact z_tXSv C kl_Waves_56 (c_Waves_checkWithin X.1 h3) rfl rfl (Nat.le_of_ble_eq_true rfl) ⟨(Nat.le_of_ble_eq_true rfl), (Nat.le_of_ble_eq_true rfl)⟩ ⟨(Nat.le_of_ble_eq_true rfl), (Nat.le_of_ble_eq_true rfl)⟩ d_Waves_charge_12 X rfl (Nat.le_of_ble_eq_true rfl) (Nat.le_of_ble_eq_true rfl)
    | inl _ =>
      refine z_cXSv C kl_Waves_56 (c_Waves_checkWithin X.1 h3) rfl rfl (Nat.le_of_ble_eq_true rfl) ⟨(Nat.le_of_ble_eq_true rfl), (Nat.le_of_ble_eq_true rfl)⟩ ⟨(Nat.le_of_ble_eq_true rfl), (Nat.le_of_ble_eq_true rfl)⟩ d_Waves_charge_12 ?_
      refine z_aload_n C d_Waves_charge_15 0 rfl rfl ?_
      refine gf_Waves_10 C (zx4 hx 70 rfl) rfl rfl d_Waves_charge_16 ?_
      refine gf_Waves_68 C (zlv (zxv hx 0 rfl) 0 rfl) rfl rfl d_Waves_charge_19 ?_
      refine z_iload_n C d_Waves_charge_22 1 rfl rfl ?_
      refine z_iload_n C d_Waves_charge_23 2 rfl rfl ?_
      obtain ⟨σ6, h5, hf⟩ := bd_s hf
      refine z_cVv C kl_Waves_117 rfl (c_Homes_addToBattery (zxv hx 0 rfl) h5) (zlv (zxv hx 0 rfl) 3 rfl) rfl rfl rfl (Nat.le_of_ble_eq_true rfl) ⟨(Nat.le_of_ble_eq_true rfl), (Nat.le_of_ble_eq_true rfl)⟩ ⟨(Nat.le_of_ble_eq_true rfl), (Nat.le_of_ble_eq_true rfl)⟩ d_Waves_charge_24 ?_
      refine z_aload_n C d_Waves_charge_27 0 rfl rfl ?_
      refine gf_Waves_10 C (zx4 hx 70 rfl) rfl rfl d_Waves_charge_28 ?_
      refine gf_Waves_68 C (zlv (zxv hx 0 rfl) 0 rfl) rfl rfl d_Waves_charge_31 ?_
      refine gf_Waves_120 C (zlv (zxv hx 0 rfl) 3 rfl) rfl rfl d_Waves_charge_34 ?_
      refine z_iload_n C d_Waves_charge_37 1 rfl rfl ?_
      obtain ⟨r8, h7, hf⟩ := bd_s hf
      refine z_cVi C kl_Waves_123 rfl (c_Row_get (zrow_v (zxv hx 0 rfl) 10 rfl) h7) (zlv (zxv hx 0 rfl) 10 rfl) rfl rfl rfl (Nat.le_of_ble_eq_true rfl) ⟨(Nat.le_of_ble_eq_true rfl), (Nat.le_of_ble_eq_true rfl)⟩ ⟨(Nat.le_of_ble_eq_true rfl), (Nat.le_of_ble_eq_true rfl)⟩ d_Waves_charge_38 ?_
      cases hf
      refine z_xret rfl ?_
      exact z_iret C rfl (Nat.le_of_ble_eq_true rfl) (Nat.le_of_ble_eq_true rfl) d_Waves_charge_41
abbrev rm_Waves_set : Room := { frames := 7, cells := 2, slots := 12, locals := 114 }
theorem d_Waves_set_0 : decode b_Waves_set 0 = .ok (.iload_n 1, 1) := by decide +kernel
theorem d_Waves_set_1 : decode b_Waves_set 1 = .ok (.iconst 0, 1) := by decide +kernel
theorem d_Waves_set_2 : decode b_Waves_set 2 = .ok (.iconst 4, 1) := by decide +kernel
theorem d_Waves_set_3 : decode b_Waves_set 3 = .ok (.invokestatic 56, 3) := by decide +kernel
theorem d_Waves_set_6 : decode b_Waves_set 6 = .ok (.iload_n 2, 1) := by decide +kernel
theorem d_Waves_set_7 : decode b_Waves_set 7 = .ok (.getstatic 127, 3) := by decide +kernel
theorem d_Waves_set_10 : decode b_Waves_set 10 = .ok (.iload_n 1, 1) := by decide +kernel
theorem d_Waves_set_11 : decode b_Waves_set 11 = .ok (.invokestatic 131, 3) := by decide +kernel
theorem d_Waves_set_14 : decode b_Waves_set 14 = .ok (.getstatic 135, 3) := by decide +kernel
theorem d_Waves_set_17 : decode b_Waves_set 17 = .ok (.iload_n 1, 1) := by decide +kernel
theorem d_Waves_set_18 : decode b_Waves_set 18 = .ok (.invokestatic 131, 3) := by decide +kernel
theorem d_Waves_set_21 : decode b_Waves_set 21 = .ok (.invokestatic 56, 3) := by decide +kernel
theorem d_Waves_set_24 : decode b_Waves_set 24 = .ok (.aload_n 0, 1) := by decide +kernel
theorem d_Waves_set_25 : decode b_Waves_set 25 = .ok (.getfield 10, 3) := by decide +kernel
theorem d_Waves_set_28 : decode b_Waves_set 28 = .ok (.getfield 138, 3) := by decide +kernel
theorem d_Waves_set_31 : decode b_Waves_set 31 = .ok (.iload_n 1, 1) := by decide +kernel
theorem d_Waves_set_32 : decode b_Waves_set 32 = .ok (.invokevirtual 123, 3) := by decide +kernel
theorem d_Waves_set_35 : decode b_Waves_set 35 = .ok (.istore_n 3, 1) := by decide +kernel
theorem d_Waves_set_36 : decode b_Waves_set 36 = .ok (.aload_n 0, 1) := by decide +kernel
theorem d_Waves_set_37 : decode b_Waves_set 37 = .ok (.getfield 10, 3) := by decide +kernel
theorem d_Waves_set_40 : decode b_Waves_set 40 = .ok (.getfield 138, 3) := by decide +kernel
theorem d_Waves_set_43 : decode b_Waves_set 43 = .ok (.iload_n 1, 1) := by decide +kernel
theorem d_Waves_set_44 : decode b_Waves_set 44 = .ok (.iload_n 2, 1) := by decide +kernel
theorem d_Waves_set_45 : decode b_Waves_set 45 = .ok (.invokevirtual 108, 3) := by decide +kernel
theorem d_Waves_set_48 : decode b_Waves_set 48 = .ok (.iload_n 3, 1) := by decide +kernel
theorem d_Waves_set_49 : decode b_Waves_set 49 = .ok (.ireturn, 1) := by decide +kernel
def F_Waves_set (a0 : Int32) (a1 : Int32) (σ : zSt) : Option ((Int32 × zSt) ⊕ String) :=
  (F_Waves_checkWithin a0 (0 : Int32) (4 : Int32) σ).bind fun q2 => match q2 with | .inr E14 => some (.inr E14) | .inl _ => (F_Waves_element 1 a0 σ).bind fun r4 => (F_Waves_element 2 a0 σ).bind fun r6 => (F_Waves_checkWithin a1 r4 r6 σ).bind fun q8 => match q8 with | .inr E13 => some (.inr E13) | .inl _ => (F_Row_get 0 1 a0 σ).bind fun r10 => (F_Row_put 0 1 a0 a1 σ).bind fun σ12 => some (.inl (r10, σ12))
set_option maxHeartbeats 4000000 in
set_option maxRecDepth 100000 in
theorem c_Waves_set {l : Launch} (hst : l.stackTraces = false) {G : zLA} (hx : zxl G) {a0 : Int32} {a1 : Int32} {σ : zSt} {out : (Int32 × zSt) ⊕ String} (hf : F_Waves_set a0 a1 σ = some out) : zX l G y_Waves_set (zws y_Waves_set b_Waves_set 4 (some .int)) rm_Waves_set [.ref (zad G 4 70), .int a0, .int a1] σ (cv_wi out σ) := by
  refine z_ofX (own := "VillageWaves") (lv := [(0, .ref (zad G 4 70)), (1, .int a0), (2, .int a1)]) (by decide +kernel) rfl rfl (Nat.le_of_ble_eq_true rfl) (fun p e s m args below meth c C X0 => ?_)
  have X : zXx l c := ⟨hst, X0⟩
  rw [F_Waves_set] at hf
  refine z_iload_n C d_Waves_set_0 1 rfl rfl ?_
  refine z_iconst C d_Waves_set_1 zki_0 ?_
  refine z_iconst C d_Waves_set_2 zki_4 ?_
  obtain ⟨q2, h1, hf⟩ := bd_s hf
  cases q2 with
  | inr E14 =>
    cases hf
    exact z_tXSv C kl_Waves_56 (c_Waves_checkWithin X.1 h1) rfl rfl (Nat.le_of_ble_eq_true rfl) ⟨(Nat.le_of_ble_eq_true rfl), (Nat.le_of_ble_eq_true rfl)⟩ ⟨(Nat.le_of_ble_eq_true rfl), (Nat.le_of_ble_eq_true rfl)⟩ d_Waves_set_3 X rfl (Nat.le_of_ble_eq_true rfl) (Nat.le_of_ble_eq_true rfl)
  | inl _ =>
    refine z_cXSv C kl_Waves_56 (c_Waves_checkWithin X.1 h1) rfl rfl (Nat.le_of_ble_eq_true rfl) ⟨(Nat.le_of_ble_eq_true rfl), (Nat.le_of_ble_eq_true rfl)⟩ ⟨(Nat.le_of_ble_eq_true rfl), (Nat.le_of_ble_eq_true rfl)⟩ d_Waves_set_3 ?_
    refine z_iload_n C d_Waves_set_6 2 rfl rfl ?_
    refine z_gs C 1 (by decide) zq920 d_Waves_set_7 ?_
    refine z_iload_n C d_Waves_set_10 1 rfl rfl ?_
    obtain ⟨r4, h3, hf⟩ := bd_s hf
    refine z_cSi C kl_Waves_131 (c_Waves_element (by decide) h3) rfl rfl (Nat.le_of_ble_eq_true rfl) ⟨(Nat.le_of_ble_eq_true rfl), (Nat.le_of_ble_eq_true rfl)⟩ ⟨(Nat.le_of_ble_eq_true rfl), (Nat.le_of_ble_eq_true rfl)⟩ d_Waves_set_11 ?_
    refine z_gs C 2 (by decide) zq922 d_Waves_set_14 ?_
    refine z_iload_n C d_Waves_set_17 1 rfl rfl ?_
    obtain ⟨r6, h5, hf⟩ := bd_s hf
    refine z_cSi C kl_Waves_131 (c_Waves_element (by decide) h5) rfl rfl (Nat.le_of_ble_eq_true rfl) ⟨(Nat.le_of_ble_eq_true rfl), (Nat.le_of_ble_eq_true rfl)⟩ ⟨(Nat.le_of_ble_eq_true rfl), (Nat.le_of_ble_eq_true rfl)⟩ d_Waves_set_18 ?_
    obtain ⟨q8, h7, hf⟩ := bd_s hf
    cases q8 with
    | inr E13 =>
      cases hf
      exact z_tXSv C kl_Waves_56 (c_Waves_checkWithin X.1 h7) rfl rfl (Nat.le_of_ble_eq_true rfl) ⟨(Nat.le_of_ble_eq_true rfl), (Nat.le_of_ble_eq_true rfl)⟩ ⟨(Nat.le_of_ble_eq_true rfl), (Nat.le_of_ble_eq_true rfl)⟩ d_Waves_set_21 X rfl (Nat.le_of_ble_eq_true rfl) (Nat.le_of_ble_eq_true rfl)
    | inl _ =>
      refine z_cXSv C kl_Waves_56 (c_Waves_checkWithin X.1 h7) rfl rfl (Nat.le_of_ble_eq_true rfl) ⟨(Nat.le_of_ble_eq_true rfl), (Nat.le_of_ble_eq_true rfl)⟩ ⟨(Nat.le_of_ble_eq_true rfl), (Nat.le_of_ble_eq_true rfl)⟩ d_Waves_set_21 ?_
      refine z_aload_n C d_Waves_set_24 0 rfl rfl ?_
      refine gf_Waves_10 C (zx4 hx 70 rfl) rfl rfl d_Waves_set_25 ?_
      refine gf_Waves_138 C (zlv (zxv hx 0 rfl) 0 rfl) rfl rfl d_Waves_set_28 ?_
      refine z_iload_n C d_Waves_set_31 1 rfl rfl ?_
      obtain ⟨r10, h9, hf⟩ := bd_s hf
      refine z_cVi C kl_Waves_123 rfl (c_Row_get (zrow_v (zxv hx 0 rfl) 1 rfl) h9) (zlv (zxv hx 0 rfl) 1 rfl) rfl rfl rfl (Nat.le_of_ble_eq_true rfl) ⟨(Nat.le_of_ble_eq_true rfl), (Nat.le_of_ble_eq_true rfl)⟩ ⟨(Nat.le_of_ble_eq_true rfl), (Nat.le_of_ble_eq_true rfl)⟩ d_Waves_set_32 ?_
      refine z_istore_n C d_Waves_set_35 rfl (by decide) ?_
      refine z_aload_n C d_Waves_set_36 1 rfl rfl ?_
      refine gf_Waves_10 C (zx4 hx 70 rfl) rfl rfl d_Waves_set_37 ?_
      refine gf_Waves_138 C (zlv (zxv hx 0 rfl) 0 rfl) rfl rfl d_Waves_set_40 ?_
      refine z_iload_n C d_Waves_set_43 2 rfl rfl ?_
      refine z_iload_n C d_Waves_set_44 3 rfl rfl ?_
      obtain ⟨σ12, h11, hf⟩ := bd_s hf
      refine z_cVv C kl_Waves_108 rfl (c_Row_put (zrow_v (zxv hx 0 rfl) 1 rfl) h11) (zlv (zxv hx 0 rfl) 1 rfl) rfl rfl rfl (Nat.le_of_ble_eq_true rfl) ⟨(Nat.le_of_ble_eq_true rfl), (Nat.le_of_ble_eq_true rfl)⟩ ⟨(Nat.le_of_ble_eq_true rfl), (Nat.le_of_ble_eq_true rfl)⟩ d_Waves_set_45 ?_
      refine z_iload_n C d_Waves_set_48 0 rfl rfl ?_
      cases hf
      refine z_xret rfl ?_
      exact z_iret C rfl (Nat.le_of_ble_eq_true rfl) (Nat.le_of_ble_eq_true rfl) d_Waves_set_49
abbrev rm_Waves_seed : Room := { frames := 7, cells := 1, slots := 6, locals := 114 }
theorem d_Waves_seed_0 : decode b_Waves_seed 0 = .ok (.iload_n 1, 1) := by decide +kernel
theorem d_Waves_seed_1 : decode b_Waves_seed 1 = .ok (.iconst 0, 1) := by decide +kernel
theorem d_Waves_seed_2 : decode b_Waves_seed 2 = .ok (.ldc 141, 2) := by decide +kernel
theorem d_Waves_seed_4 : decode b_Waves_seed 4 = .ok (.invokestatic 56, 3) := by decide +kernel
theorem d_Waves_seed_7 : decode b_Waves_seed 7 = .ok (.aload_n 0, 1) := by decide +kernel
theorem d_Waves_seed_8 : decode b_Waves_seed 8 = .ok (.getfield 10, 3) := by decide +kernel
theorem d_Waves_seed_11 : decode b_Waves_seed 11 = .ok (.iload_n 1, 1) := by decide +kernel
theorem d_Waves_seed_12 : decode b_Waves_seed 12 = .ok (.putfield 142, 3) := by decide +kernel
theorem d_Waves_seed_15 : decode b_Waves_seed 15 = .ok (.return_, 1) := by decide +kernel
def F_Waves_seed (a0 : Int32) (σ : zSt) : Option ((zSt) ⊕ String) :=
  (F_Waves_checkWithin a0 (0 : Int32) (1000002 : Int32) σ).bind fun q2 => match q2 with | .inr E3 => some (.inr E3) | .inl _ => some (.inl (zst σ 0 0 2 a0))
set_option maxHeartbeats 4000000 in
set_option maxRecDepth 100000 in
theorem c_Waves_seed {l : Launch} (hst : l.stackTraces = false) {G : zLA} (hx : zxl G) {a0 : Int32} {σ : zSt} {out : (zSt) ⊕ String} (hf : F_Waves_seed a0 σ = some out) : zX l G y_Waves_seed (zws y_Waves_seed b_Waves_seed 2 none) rm_Waves_seed [.ref (zad G 4 70), .int a0] σ (cv_wu out σ) := by
  refine z_ofX (own := "VillageWaves") (lv := [(0, .ref (zad G 4 70)), (1, .int a0)]) (by decide +kernel) rfl rfl (Nat.le_of_ble_eq_true rfl) (fun p e s m args below meth c C X0 => ?_)
  have X : zXx l c := ⟨hst, X0⟩
  rw [F_Waves_seed] at hf
  refine z_iload_n C d_Waves_seed_0 1 rfl rfl ?_
  refine z_iconst C d_Waves_seed_1 zki_0 ?_
  refine z_ldc C d_Waves_seed_2 zq930 ?_
  obtain ⟨q2, h1, hf⟩ := bd_s hf
  cases q2 with
  | inr E3 =>
    cases hf
    exact z_tXSv C kl_Waves_56 (c_Waves_checkWithin X.1 h1) rfl rfl (Nat.le_of_ble_eq_true rfl) ⟨(Nat.le_of_ble_eq_true rfl), (Nat.le_of_ble_eq_true rfl)⟩ ⟨(Nat.le_of_ble_eq_true rfl), (Nat.le_of_ble_eq_true rfl)⟩ d_Waves_seed_4 X rfl (Nat.le_of_ble_eq_true rfl) (Nat.le_of_ble_eq_true rfl)
  | inl _ =>
    refine z_cXSv C kl_Waves_56 (c_Waves_checkWithin X.1 h1) rfl rfl (Nat.le_of_ble_eq_true rfl) ⟨(Nat.le_of_ble_eq_true rfl), (Nat.le_of_ble_eq_true rfl)⟩ ⟨(Nat.le_of_ble_eq_true rfl), (Nat.le_of_ble_eq_true rfl)⟩ d_Waves_seed_4 ?_
    refine z_aload_n C d_Waves_seed_7 0 rfl rfl ?_
    refine gf_Waves_10 C (zx4 hx 70 rfl) rfl rfl d_Waves_seed_8 ?_
    refine z_iload_n C d_Waves_seed_11 1 rfl rfl ?_
    refine pf_Waves_142 C (zlv (zxv hx 0 rfl) 0 rfl) rfl (Nat.le_of_ble_eq_true rfl) rfl d_Waves_seed_12 ?_
    cases hf
    refine z_xret rfl ?_
    exact z_vret C rfl (Nat.le_of_ble_eq_true rfl) (Nat.le_of_ble_eq_true rfl) d_Waves_seed_15
abbrev rm_Waves_count : Room := { frames := 7, cells := 1, slots := 6, locals := 114 }
theorem d_Waves_count_0 : decode b_Waves_count 0 = .ok (.iload_n 1, 1) := by decide +kernel
theorem d_Waves_count_1 : decode b_Waves_count 1 = .ok (.iconst 0, 1) := by decide +kernel
theorem d_Waves_count_2 : decode b_Waves_count 2 = .ok (.bipush 13, 2) := by decide +kernel
theorem d_Waves_count_4 : decode b_Waves_count 4 = .ok (.invokestatic 56, 3) := by decide +kernel
theorem d_Waves_count_7 : decode b_Waves_count 7 = .ok (.iload_n 1, 1) := by decide +kernel
theorem d_Waves_count_8 : decode b_Waves_count 8 = .ok (.tableswitch 160 5 13 #[52, 60, 71, 82, 90, 98, 109, 127, 138], 52) := by decide +kernel
theorem d_Waves_count_60 : decode b_Waves_count 60 = .ok (.aload_n 0, 1) := by decide +kernel
theorem d_Waves_count_61 : decode b_Waves_count 61 = .ok (.getfield 10, 3) := by decide +kernel
theorem d_Waves_count_64 : decode b_Waves_count 64 = .ok (.getfield 96, 3) := by decide +kernel
theorem d_Waves_count_67 : decode b_Waves_count 67 = .ok (.ireturn, 1) := by decide +kernel
theorem d_Waves_count_68 : decode b_Waves_count 68 = .ok (.aload_n 0, 1) := by decide +kernel
theorem d_Waves_count_69 : decode b_Waves_count 69 = .ok (.getfield 10, 3) := by decide +kernel
theorem d_Waves_count_72 : decode b_Waves_count 72 = .ok (.getfield 68, 3) := by decide +kernel
theorem d_Waves_count_75 : decode b_Waves_count 75 = .ok (.getfield 72, 3) := by decide +kernel
theorem d_Waves_count_78 : decode b_Waves_count 78 = .ok (.ireturn, 1) := by decide +kernel
theorem d_Waves_count_79 : decode b_Waves_count 79 = .ok (.aload_n 0, 1) := by decide +kernel
theorem d_Waves_count_80 : decode b_Waves_count 80 = .ok (.getfield 10, 3) := by decide +kernel
theorem d_Waves_count_83 : decode b_Waves_count 83 = .ok (.getfield 145, 3) := by decide +kernel
theorem d_Waves_count_86 : decode b_Waves_count 86 = .ok (.getfield 149, 3) := by decide +kernel
theorem d_Waves_count_89 : decode b_Waves_count 89 = .ok (.ireturn, 1) := by decide +kernel
theorem d_Waves_count_90 : decode b_Waves_count 90 = .ok (.aload_n 0, 1) := by decide +kernel
theorem d_Waves_count_91 : decode b_Waves_count 91 = .ok (.getfield 10, 3) := by decide +kernel
theorem d_Waves_count_94 : decode b_Waves_count 94 = .ok (.getfield 152, 3) := by decide +kernel
theorem d_Waves_count_97 : decode b_Waves_count 97 = .ok (.ireturn, 1) := by decide +kernel
theorem d_Waves_count_98 : decode b_Waves_count 98 = .ok (.aload_n 0, 1) := by decide +kernel
theorem d_Waves_count_99 : decode b_Waves_count 99 = .ok (.getfield 10, 3) := by decide +kernel
theorem d_Waves_count_102 : decode b_Waves_count 102 = .ok (.getfield 142, 3) := by decide +kernel
theorem d_Waves_count_105 : decode b_Waves_count 105 = .ok (.ireturn, 1) := by decide +kernel
theorem d_Waves_count_106 : decode b_Waves_count 106 = .ok (.aload_n 0, 1) := by decide +kernel
theorem d_Waves_count_107 : decode b_Waves_count 107 = .ok (.getfield 10, 3) := by decide +kernel
theorem d_Waves_count_110 : decode b_Waves_count 110 = .ok (.getfield 155, 3) := by decide +kernel
theorem d_Waves_count_113 : decode b_Waves_count 113 = .ok (.getfield 159, 3) := by decide +kernel
theorem d_Waves_count_116 : decode b_Waves_count 116 = .ok (.ireturn, 1) := by decide +kernel
theorem d_Waves_count_117 : decode b_Waves_count 117 = .ok (.aload_n 0, 1) := by decide +kernel
theorem d_Waves_count_118 : decode b_Waves_count 118 = .ok (.getfield 10, 3) := by decide +kernel
theorem d_Waves_count_121 : decode b_Waves_count 121 = .ok (.getfield 68, 3) := by decide +kernel
theorem d_Waves_count_124 : decode b_Waves_count 124 = .ok (.aload_n 0, 1) := by decide +kernel
theorem d_Waves_count_125 : decode b_Waves_count 125 = .ok (.getfield 10, 3) := by decide +kernel
theorem d_Waves_count_128 : decode b_Waves_count 128 = .ok (.invokevirtual 164, 3) := by decide +kernel
theorem d_Waves_count_131 : decode b_Waves_count 131 = .ok (.invokevirtual 168, 3) := by decide +kernel
theorem d_Waves_count_134 : decode b_Waves_count 134 = .ok (.ireturn, 1) := by decide +kernel
theorem d_Waves_count_135 : decode b_Waves_count 135 = .ok (.aload_n 0, 1) := by decide +kernel
theorem d_Waves_count_136 : decode b_Waves_count 136 = .ok (.getfield 10, 3) := by decide +kernel
theorem d_Waves_count_139 : decode b_Waves_count 139 = .ok (.getfield 145, 3) := by decide +kernel
theorem d_Waves_count_142 : decode b_Waves_count 142 = .ok (.invokevirtual 171, 3) := by decide +kernel
theorem d_Waves_count_145 : decode b_Waves_count 145 = .ok (.ireturn, 1) := by decide +kernel
theorem d_Waves_count_146 : decode b_Waves_count 146 = .ok (.aload_n 0, 1) := by decide +kernel
theorem d_Waves_count_147 : decode b_Waves_count 147 = .ok (.getfield 10, 3) := by decide +kernel
theorem d_Waves_count_150 : decode b_Waves_count 150 = .ok (.getfield 174, 3) := by decide +kernel
theorem d_Waves_count_153 : decode b_Waves_count 153 = .ok (.invokevirtual 178, 3) := by decide +kernel
theorem d_Waves_count_156 : decode b_Waves_count 156 = .ok (.aload_n 0, 1) := by decide +kernel
theorem d_Waves_count_157 : decode b_Waves_count 157 = .ok (.getfield 10, 3) := by decide +kernel
theorem d_Waves_count_160 : decode b_Waves_count 160 = .ok (.getfield 182, 3) := by decide +kernel
theorem d_Waves_count_163 : decode b_Waves_count 163 = .ok (.invokevirtual 178, 3) := by decide +kernel
theorem d_Waves_count_166 : decode b_Waves_count 166 = .ok (.iadd, 1) := by decide +kernel
theorem d_Waves_count_167 : decode b_Waves_count 167 = .ok (.ireturn, 1) := by decide +kernel
theorem d_Waves_count_168 : decode b_Waves_count 168 = .ok (.aload_n 0, 1) := by decide +kernel
theorem d_Waves_count_169 : decode b_Waves_count 169 = .ok (.getfield 10, 3) := by decide +kernel
theorem d_Waves_count_172 : decode b_Waves_count 172 = .ok (.getfield 138, 3) := by decide +kernel
theorem d_Waves_count_175 : decode b_Waves_count 175 = .ok (.iload_n 1, 1) := by decide +kernel
theorem d_Waves_count_176 : decode b_Waves_count 176 = .ok (.invokevirtual 123, 3) := by decide +kernel
theorem d_Waves_count_179 : decode b_Waves_count 179 = .ok (.ireturn, 1) := by decide +kernel
def F_Waves_count (a0 : Int32) (σ : zSt) : Option ((Int32) ⊕ String) :=
  (F_Waves_checkWithin a0 (0 : Int32) (13 : Int32) σ).bind fun q2 => match q2 with | .inr E24 => some (.inr E24) | .inl _ => if a0 = (5 : Int32) then some (.inl (σ.1 0 0 0)) else (if a0 = (6 : Int32) then some (.inl (σ.1 0 3 0)) else (if a0 = (7 : Int32) then some (.inl (σ.1 0 24 0)) else (if a0 = (8 : Int32) then some (.inl (σ.1 0 0 1)) else (if a0 = (9 : Int32) then some (.inl (σ.1 0 0 2)) else (if a0 = (10 : Int32) then some (.inl (σ.1 0 59 0)) else (if a0 = (11 : Int32) then ((F_Village_minuteOfDay 0 σ).bind fun r11 => (F_Homes_quietAt 0 r11 σ).bind fun r13 => some (.inl r13)) else (if a0 = (12 : Int32) then ((F_Tidings_correctedNumber 0 σ).bind fun r16 => some (.inl r16)) else (if a0 = (13 : Int32) then ((F_Entries_total 0 43 σ).bind fun r19 => (F_Entries_total 0 48 σ).bind fun r21 => some (.inl (r19 + r21))) else ((F_Row_get 0 1 a0 σ).bind fun r23 => some (.inl r23))))))))))
set_option maxHeartbeats 4000000 in
set_option maxRecDepth 100000 in
theorem c_Waves_count {l : Launch} (hst : l.stackTraces = false) {G : zLA} (hx : zxl G) {a0 : Int32} {σ : zSt} {out : (Int32) ⊕ String} (hf : F_Waves_count a0 σ = some out) : zX l G y_Waves_count (zws y_Waves_count b_Waves_count 2 (some .int)) rm_Waves_count [.ref (zad G 4 70), .int a0] σ (cv_pi out σ) := by
  refine z_ofX (own := "VillageWaves") (lv := [(0, .ref (zad G 4 70)), (1, .int a0)]) (by decide +kernel) rfl rfl (Nat.le_of_ble_eq_true rfl) (fun p e s m args below meth c C X0 => ?_)
  have X : zXx l c := ⟨hst, X0⟩
  rw [F_Waves_count] at hf
  refine z_iload_n C d_Waves_count_0 1 rfl rfl ?_
  refine z_iconst C d_Waves_count_1 zki_0 ?_
  refine z_bipush C d_Waves_count_2 zkb_13 ?_
  obtain ⟨q2, h1, hf⟩ := bd_s hf
  cases q2 with
  | inr E24 =>
    cases hf
    exact z_tXSv C kl_Waves_56 (c_Waves_checkWithin X.1 h1) rfl rfl (Nat.le_of_ble_eq_true rfl) ⟨(Nat.le_of_ble_eq_true rfl), (Nat.le_of_ble_eq_true rfl)⟩ ⟨(Nat.le_of_ble_eq_true rfl), (Nat.le_of_ble_eq_true rfl)⟩ d_Waves_count_4 X rfl (Nat.le_of_ble_eq_true rfl) (Nat.le_of_ble_eq_true rfl)
  | inl _ =>
    refine z_cXSv C kl_Waves_56 (c_Waves_checkWithin X.1 h1) rfl rfl (Nat.le_of_ble_eq_true rfl) ⟨(Nat.le_of_ble_eq_true rfl), (Nat.le_of_ble_eq_true rfl)⟩ ⟨(Nat.le_of_ble_eq_true rfl), (Nat.le_of_ble_eq_true rfl)⟩ d_Waves_count_4 ?_
    refine z_iload_n C d_Waves_count_7 1 rfl rfl ?_
    by_cases h3 : a0 = (5 : Int32)
    · have hf := iff_t hf h3
      refine z_tin (off := 52) (tgt := 60) C d_Waves_count_8 (by rw [h3]; decide) (by rw [h3]; decide) (by rw [h3]; rfl) rfl ?_
      refine z_aload_n C d_Waves_count_60 0 rfl rfl ?_
      refine gf_Waves_10 C (zx4 hx 70 rfl) rfl rfl d_Waves_count_61 ?_
      refine gf_Waves_96 C (zlv (zxv hx 0 rfl) 0 rfl) rfl rfl d_Waves_count_64 ?_
      cases hf
      refine z_xret rfl ?_
      exact z_iret C rfl (Nat.le_of_ble_eq_true rfl) (Nat.le_of_ble_eq_true rfl) d_Waves_count_67
    · have hf := iff_f hf h3
      by_cases h4 : a0 = (6 : Int32)
      · have hf := iff_t hf h4
        refine z_tin (off := 60) (tgt := 68) C d_Waves_count_8 (by rw [h4]; decide) (by rw [h4]; decide) (by rw [h4]; rfl) rfl ?_
        refine z_aload_n C d_Waves_count_68 0 rfl rfl ?_
        refine gf_Waves_10 C (zx4 hx 70 rfl) rfl rfl d_Waves_count_69 ?_
        refine gf_Waves_68 C (zlv (zxv hx 0 rfl) 0 rfl) rfl rfl d_Waves_count_72 ?_
        refine gf_Waves_72 C (zlv (zxv hx 0 rfl) 3 rfl) rfl rfl d_Waves_count_75 ?_
        cases hf
        refine z_xret rfl ?_
        exact z_iret C rfl (Nat.le_of_ble_eq_true rfl) (Nat.le_of_ble_eq_true rfl) d_Waves_count_78
      · have hf := iff_f hf h4
        by_cases h5 : a0 = (7 : Int32)
        · have hf := iff_t hf h5
          refine z_tin (off := 71) (tgt := 79) C d_Waves_count_8 (by rw [h5]; decide) (by rw [h5]; decide) (by rw [h5]; rfl) rfl ?_
          refine z_aload_n C d_Waves_count_79 0 rfl rfl ?_
          refine gf_Waves_10 C (zx4 hx 70 rfl) rfl rfl d_Waves_count_80 ?_
          refine gf_Waves_145 C (zlv (zxv hx 0 rfl) 0 rfl) rfl rfl d_Waves_count_83 ?_
          refine gf_Waves_149 C (zlv (zxv hx 0 rfl) 24 rfl) rfl rfl d_Waves_count_86 ?_
          cases hf
          refine z_xret rfl ?_
          exact z_iret C rfl (Nat.le_of_ble_eq_true rfl) (Nat.le_of_ble_eq_true rfl) d_Waves_count_89
        · have hf := iff_f hf h5
          by_cases h6 : a0 = (8 : Int32)
          · have hf := iff_t hf h6
            refine z_tin (off := 82) (tgt := 90) C d_Waves_count_8 (by rw [h6]; decide) (by rw [h6]; decide) (by rw [h6]; rfl) rfl ?_
            refine z_aload_n C d_Waves_count_90 0 rfl rfl ?_
            refine gf_Waves_10 C (zx4 hx 70 rfl) rfl rfl d_Waves_count_91 ?_
            refine gf_Waves_152 C (zlv (zxv hx 0 rfl) 0 rfl) rfl rfl d_Waves_count_94 ?_
            cases hf
            refine z_xret rfl ?_
            exact z_iret C rfl (Nat.le_of_ble_eq_true rfl) (Nat.le_of_ble_eq_true rfl) d_Waves_count_97
          · have hf := iff_f hf h6
            by_cases h7 : a0 = (9 : Int32)
            · have hf := iff_t hf h7
              refine z_tin (off := 90) (tgt := 98) C d_Waves_count_8 (by rw [h7]; decide) (by rw [h7]; decide) (by rw [h7]; rfl) rfl ?_
              refine z_aload_n C d_Waves_count_98 0 rfl rfl ?_
              refine gf_Waves_10 C (zx4 hx 70 rfl) rfl rfl d_Waves_count_99 ?_
              refine gf_Waves_142 C (zlv (zxv hx 0 rfl) 0 rfl) rfl rfl d_Waves_count_102 ?_
              cases hf
              refine z_xret rfl ?_
              exact z_iret C rfl (Nat.le_of_ble_eq_true rfl) (Nat.le_of_ble_eq_true rfl) d_Waves_count_105
            · have hf := iff_f hf h7
              by_cases h8 : a0 = (10 : Int32)
              · have hf := iff_t hf h8
                refine z_tin (off := 98) (tgt := 106) C d_Waves_count_8 (by rw [h8]; decide) (by rw [h8]; decide) (by rw [h8]; rfl) rfl ?_
                refine z_aload_n C d_Waves_count_106 0 rfl rfl ?_
                refine gf_Waves_10 C (zx4 hx 70 rfl) rfl rfl d_Waves_count_107 ?_
                refine gf_Waves_155 C (zlv (zxv hx 0 rfl) 0 rfl) rfl rfl d_Waves_count_110 ?_
                refine gf_Waves_159 C (zlv (zxv hx 0 rfl) 59 rfl) rfl rfl d_Waves_count_113 ?_
                cases hf
                refine z_xret rfl ?_
                exact z_iret C rfl (Nat.le_of_ble_eq_true rfl) (Nat.le_of_ble_eq_true rfl) d_Waves_count_116
              · have hf := iff_f hf h8
                by_cases h9 : a0 = (11 : Int32)
                · have hf := iff_t hf h9
                  refine z_tin (off := 109) (tgt := 117) C d_Waves_count_8 (by rw [h9]; decide) (by rw [h9]; decide) (by rw [h9]; rfl) rfl ?_
                  refine z_aload_n C d_Waves_count_117 0 rfl rfl ?_
                  refine gf_Waves_10 C (zx4 hx 70 rfl) rfl rfl d_Waves_count_118 ?_
                  refine gf_Waves_68 C (zlv (zxv hx 0 rfl) 0 rfl) rfl rfl d_Waves_count_121 ?_
                  refine z_aload_n C d_Waves_count_124 0 rfl rfl ?_
                  refine gf_Waves_10 C (zx4 hx 70 rfl) rfl rfl d_Waves_count_125 ?_
                  obtain ⟨r11, h10, hf⟩ := bd_s hf
                  refine z_cVi C kl_Waves_164 rfl (c_Village_minuteOfDay (zxv hx 0 rfl) h10) (zlv (zxv hx 0 rfl) 0 rfl) rfl rfl rfl (Nat.le_of_ble_eq_true rfl) ⟨(Nat.le_of_ble_eq_true rfl), (Nat.le_of_ble_eq_true rfl)⟩ ⟨(Nat.le_of_ble_eq_true rfl), (Nat.le_of_ble_eq_true rfl)⟩ d_Waves_count_128 ?_
                  obtain ⟨r13, h12, hf⟩ := bd_s hf
                  refine z_cVi C kl_Waves_168 rfl (c_Homes_quietAt (zxv hx 0 rfl) h12) (zlv (zxv hx 0 rfl) 3 rfl) rfl rfl rfl (Nat.le_of_ble_eq_true rfl) ⟨(Nat.le_of_ble_eq_true rfl), (Nat.le_of_ble_eq_true rfl)⟩ ⟨(Nat.le_of_ble_eq_true rfl), (Nat.le_of_ble_eq_true rfl)⟩ d_Waves_count_131 ?_
                  cases hf
                  refine z_xret rfl ?_
                  exact z_iret C rfl (Nat.le_of_ble_eq_true rfl) (Nat.le_of_ble_eq_true rfl) d_Waves_count_134
                · have hf := iff_f hf h9
                  by_cases h14 : a0 = (12 : Int32)
                  · have hf := iff_t hf h14
                    refine z_tin (off := 127) (tgt := 135) C d_Waves_count_8 (by rw [h14]; decide) (by rw [h14]; decide) (by rw [h14]; rfl) rfl ?_
                    refine z_aload_n C d_Waves_count_135 0 rfl rfl ?_
                    refine gf_Waves_10 C (zx4 hx 70 rfl) rfl rfl d_Waves_count_136 ?_
                    refine gf_Waves_145 C (zlv (zxv hx 0 rfl) 0 rfl) rfl rfl d_Waves_count_139 ?_
                    obtain ⟨r16, h15, hf⟩ := bd_s hf
                    refine z_cVi C kl_Waves_171 rfl (c_Tidings_correctedNumber (zxv hx 0 rfl) h15) (zlv (zxv hx 0 rfl) 24 rfl) rfl rfl rfl (Nat.le_of_ble_eq_true rfl) ⟨(Nat.le_of_ble_eq_true rfl), (Nat.le_of_ble_eq_true rfl)⟩ ⟨(Nat.le_of_ble_eq_true rfl), (Nat.le_of_ble_eq_true rfl)⟩ d_Waves_count_142 ?_
                    cases hf
                    refine z_xret rfl ?_
                    exact z_iret C rfl (Nat.le_of_ble_eq_true rfl) (Nat.le_of_ble_eq_true rfl) d_Waves_count_145
                  · have hf := iff_f hf h14
                    by_cases h17 : a0 = (13 : Int32)
                    · have hf := iff_t hf h17
                      refine z_tin (off := 138) (tgt := 146) C d_Waves_count_8 (by rw [h17]; decide) (by rw [h17]; decide) (by rw [h17]; rfl) rfl ?_
                      refine z_aload_n C d_Waves_count_146 0 rfl rfl ?_
                      refine gf_Waves_10 C (zx4 hx 70 rfl) rfl rfl d_Waves_count_147 ?_
                      refine gf_Waves_174 C (zlv (zxv hx 0 rfl) 0 rfl) rfl rfl d_Waves_count_150 ?_
                      obtain ⟨r19, h18, hf⟩ := bd_s hf
                      refine z_cVi C kl_Waves_178 rfl (c_Entries_total (zxv hx 0 rfl) (Or.inl rfl) h18) (zlv (zxv hx 0 rfl) 43 rfl) rfl rfl rfl (Nat.le_of_ble_eq_true rfl) ⟨(Nat.le_of_ble_eq_true rfl), (Nat.le_of_ble_eq_true rfl)⟩ ⟨(Nat.le_of_ble_eq_true rfl), (Nat.le_of_ble_eq_true rfl)⟩ d_Waves_count_153 ?_
                      refine z_aload_n C d_Waves_count_156 0 rfl rfl ?_
                      refine gf_Waves_10 C (zx4 hx 70 rfl) rfl rfl d_Waves_count_157 ?_
                      refine gf_Waves_182 C (zlv (zxv hx 0 rfl) 0 rfl) rfl rfl d_Waves_count_160 ?_
                      obtain ⟨r21, h20, hf⟩ := bd_s hf
                      refine z_cVi C kl_Waves_178 rfl (c_Entries_total (zxv hx 0 rfl) (Or.inr rfl) h20) (zlv (zxv hx 0 rfl) 48 rfl) rfl rfl rfl (Nat.le_of_ble_eq_true rfl) ⟨(Nat.le_of_ble_eq_true rfl), (Nat.le_of_ble_eq_true rfl)⟩ ⟨(Nat.le_of_ble_eq_true rfl), (Nat.le_of_ble_eq_true rfl)⟩ d_Waves_count_163 ?_
                      refine z_iadd C d_Waves_count_166 ?_
                      cases hf
                      refine z_xret rfl ?_
                      exact z_iret C rfl (Nat.le_of_ble_eq_true rfl) (Nat.le_of_ble_eq_true rfl) d_Waves_count_167
                    · have hf := iff_f hf h17
                      refine z_tout (tgt := 168) C d_Waves_count_8 (ztab_5_13 h3 h4 h5 h6 h7 h8 h9 h14 h17) rfl ?_
                      refine z_aload_n C d_Waves_count_168 0 rfl rfl ?_
                      refine gf_Waves_10 C (zx4 hx 70 rfl) rfl rfl d_Waves_count_169 ?_
                      refine gf_Waves_138 C (zlv (zxv hx 0 rfl) 0 rfl) rfl rfl d_Waves_count_172 ?_
                      refine z_iload_n C d_Waves_count_175 1 rfl rfl ?_
                      obtain ⟨r23, h22, hf⟩ := bd_s hf
                      refine z_cVi C kl_Waves_123 rfl (c_Row_get (zrow_v (zxv hx 0 rfl) 1 rfl) h22) (zlv (zxv hx 0 rfl) 1 rfl) rfl rfl rfl (Nat.le_of_ble_eq_true rfl) ⟨(Nat.le_of_ble_eq_true rfl), (Nat.le_of_ble_eq_true rfl)⟩ ⟨(Nat.le_of_ble_eq_true rfl), (Nat.le_of_ble_eq_true rfl)⟩ d_Waves_count_176 ?_
                      cases hf
                      refine z_xret rfl ?_
                      exact z_iret C rfl (Nat.le_of_ble_eq_true rfl) (Nat.le_of_ble_eq_true rfl) d_Waves_count_179
abbrev rm_Waves_house : Room := { frames := 7, cells := 2, slots := 12, locals := 114 }
theorem d_Waves_house_0 : decode b_Waves_house 0 = .ok (.aload_n 0, 1) := by decide +kernel
theorem d_Waves_house_1 : decode b_Waves_house 1 = .ok (.iload_n 1, 1) := by decide +kernel
theorem d_Waves_house_2 : decode b_Waves_house 2 = .ok (.invokevirtual 93, 3) := by decide +kernel
theorem d_Waves_house_5 : decode b_Waves_house 5 = .ok (.iload_n 2, 1) := by decide +kernel
theorem d_Waves_house_6 : decode b_Waves_house 6 = .ok (.iconst 0, 1) := by decide +kernel
theorem d_Waves_house_7 : decode b_Waves_house 7 = .ok (.bipush 14, 2) := by decide +kernel
theorem d_Waves_house_9 : decode b_Waves_house 9 = .ok (.invokestatic 56, 3) := by decide +kernel
theorem d_Waves_house_12 : decode b_Waves_house 12 = .ok (.iload_n 2, 1) := by decide +kernel
theorem d_Waves_house_13 : decode b_Waves_house 13 = .ok (.tableswitch 293 0 13 #[71, 86, 101, 116, 131, 146, 161, 176, 203, 218, 233, 245, 257, 269], 71) := by decide +kernel
theorem d_Waves_house_84 : decode b_Waves_house 84 = .ok (.aload_n 0, 1) := by decide +kernel
theorem d_Waves_house_85 : decode b_Waves_house 85 = .ok (.getfield 10, 3) := by decide +kernel
theorem d_Waves_house_88 : decode b_Waves_house 88 = .ok (.getfield 68, 3) := by decide +kernel
theorem d_Waves_house_91 : decode b_Waves_house 91 = .ok (.getfield 185, 3) := by decide +kernel
theorem d_Waves_house_94 : decode b_Waves_house 94 = .ok (.iload_n 1, 1) := by decide +kernel
theorem d_Waves_house_95 : decode b_Waves_house 95 = .ok (.invokevirtual 123, 3) := by decide +kernel
theorem d_Waves_house_98 : decode b_Waves_house 98 = .ok (.ireturn, 1) := by decide +kernel
theorem d_Waves_house_99 : decode b_Waves_house 99 = .ok (.aload_n 0, 1) := by decide +kernel
theorem d_Waves_house_100 : decode b_Waves_house 100 = .ok (.getfield 10, 3) := by decide +kernel
theorem d_Waves_house_103 : decode b_Waves_house 103 = .ok (.getfield 68, 3) := by decide +kernel
theorem d_Waves_house_106 : decode b_Waves_house 106 = .ok (.getfield 188, 3) := by decide +kernel
theorem d_Waves_house_109 : decode b_Waves_house 109 = .ok (.iload_n 1, 1) := by decide +kernel
theorem d_Waves_house_110 : decode b_Waves_house 110 = .ok (.invokevirtual 123, 3) := by decide +kernel
theorem d_Waves_house_113 : decode b_Waves_house 113 = .ok (.ireturn, 1) := by decide +kernel
theorem d_Waves_house_114 : decode b_Waves_house 114 = .ok (.aload_n 0, 1) := by decide +kernel
theorem d_Waves_house_115 : decode b_Waves_house 115 = .ok (.getfield 10, 3) := by decide +kernel
theorem d_Waves_house_118 : decode b_Waves_house 118 = .ok (.getfield 68, 3) := by decide +kernel
theorem d_Waves_house_121 : decode b_Waves_house 121 = .ok (.getfield 191, 3) := by decide +kernel
theorem d_Waves_house_124 : decode b_Waves_house 124 = .ok (.iload_n 1, 1) := by decide +kernel
theorem d_Waves_house_125 : decode b_Waves_house 125 = .ok (.invokevirtual 123, 3) := by decide +kernel
theorem d_Waves_house_128 : decode b_Waves_house 128 = .ok (.ireturn, 1) := by decide +kernel
theorem d_Waves_house_129 : decode b_Waves_house 129 = .ok (.aload_n 0, 1) := by decide +kernel
theorem d_Waves_house_130 : decode b_Waves_house 130 = .ok (.getfield 10, 3) := by decide +kernel
theorem d_Waves_house_133 : decode b_Waves_house 133 = .ok (.getfield 68, 3) := by decide +kernel
theorem d_Waves_house_136 : decode b_Waves_house 136 = .ok (.getfield 120, 3) := by decide +kernel
theorem d_Waves_house_139 : decode b_Waves_house 139 = .ok (.iload_n 1, 1) := by decide +kernel
theorem d_Waves_house_140 : decode b_Waves_house 140 = .ok (.invokevirtual 123, 3) := by decide +kernel
theorem d_Waves_house_143 : decode b_Waves_house 143 = .ok (.ireturn, 1) := by decide +kernel
theorem d_Waves_house_144 : decode b_Waves_house 144 = .ok (.aload_n 0, 1) := by decide +kernel
theorem d_Waves_house_145 : decode b_Waves_house 145 = .ok (.getfield 10, 3) := by decide +kernel
theorem d_Waves_house_148 : decode b_Waves_house 148 = .ok (.getfield 68, 3) := by decide +kernel
theorem d_Waves_house_151 : decode b_Waves_house 151 = .ok (.getfield 194, 3) := by decide +kernel
theorem d_Waves_house_154 : decode b_Waves_house 154 = .ok (.iload_n 1, 1) := by decide +kernel
theorem d_Waves_house_155 : decode b_Waves_house 155 = .ok (.invokevirtual 123, 3) := by decide +kernel
theorem d_Waves_house_158 : decode b_Waves_house 158 = .ok (.ireturn, 1) := by decide +kernel
theorem d_Waves_house_159 : decode b_Waves_house 159 = .ok (.aload_n 0, 1) := by decide +kernel
theorem d_Waves_house_160 : decode b_Waves_house 160 = .ok (.getfield 10, 3) := by decide +kernel
theorem d_Waves_house_163 : decode b_Waves_house 163 = .ok (.getfield 68, 3) := by decide +kernel
theorem d_Waves_house_166 : decode b_Waves_house 166 = .ok (.getfield 104, 3) := by decide +kernel
theorem d_Waves_house_169 : decode b_Waves_house 169 = .ok (.iload_n 1, 1) := by decide +kernel
theorem d_Waves_house_170 : decode b_Waves_house 170 = .ok (.invokevirtual 123, 3) := by decide +kernel
theorem d_Waves_house_173 : decode b_Waves_house 173 = .ok (.ireturn, 1) := by decide +kernel
theorem d_Waves_house_174 : decode b_Waves_house 174 = .ok (.aload_n 0, 1) := by decide +kernel
theorem d_Waves_house_175 : decode b_Waves_house 175 = .ok (.getfield 10, 3) := by decide +kernel
theorem d_Waves_house_178 : decode b_Waves_house 178 = .ok (.getfield 68, 3) := by decide +kernel
theorem d_Waves_house_181 : decode b_Waves_house 181 = .ok (.getfield 114, 3) := by decide +kernel
theorem d_Waves_house_184 : decode b_Waves_house 184 = .ok (.iload_n 1, 1) := by decide +kernel
theorem d_Waves_house_185 : decode b_Waves_house 185 = .ok (.invokevirtual 123, 3) := by decide +kernel
theorem d_Waves_house_188 : decode b_Waves_house 188 = .ok (.ireturn, 1) := by decide +kernel
theorem d_Waves_house_189 : decode b_Waves_house 189 = .ok (.aload_n 0, 1) := by decide +kernel
theorem d_Waves_house_190 : decode b_Waves_house 190 = .ok (.getfield 10, 3) := by decide +kernel
theorem d_Waves_house_193 : decode b_Waves_house 193 = .ok (.getfield 68, 3) := by decide +kernel
theorem d_Waves_house_196 : decode b_Waves_house 196 = .ok (.iload_n 1, 1) := by decide +kernel
theorem d_Waves_house_197 : decode b_Waves_house 197 = .ok (.aload_n 0, 1) := by decide +kernel
theorem d_Waves_house_198 : decode b_Waves_house 198 = .ok (.getfield 10, 3) := by decide +kernel
theorem d_Waves_house_201 : decode b_Waves_house 201 = .ok (.invokevirtual 164, 3) := by decide +kernel
theorem d_Waves_house_204 : decode b_Waves_house 204 = .ok (.invokevirtual 197, 3) := by decide +kernel
theorem d_Waves_house_207 : decode b_Waves_house 207 = .ok (.ifCond .eq 7, 3) := by decide +kernel
theorem d_Waves_house_210 : decode b_Waves_house 210 = .ok (.iconst 1, 1) := by decide +kernel
theorem d_Waves_house_211 : decode b_Waves_house 211 = .ok (.goto 4, 3) := by decide +kernel
theorem d_Waves_house_214 : decode b_Waves_house 214 = .ok (.iconst 0, 1) := by decide +kernel
theorem d_Waves_house_215 : decode b_Waves_house 215 = .ok (.ireturn, 1) := by decide +kernel
theorem d_Waves_house_216 : decode b_Waves_house 216 = .ok (.aload_n 0, 1) := by decide +kernel
theorem d_Waves_house_217 : decode b_Waves_house 217 = .ok (.getfield 10, 3) := by decide +kernel
theorem d_Waves_house_220 : decode b_Waves_house 220 = .ok (.getfield 68, 3) := by decide +kernel
theorem d_Waves_house_223 : decode b_Waves_house 223 = .ok (.getfield 201, 3) := by decide +kernel
theorem d_Waves_house_226 : decode b_Waves_house 226 = .ok (.iload_n 1, 1) := by decide +kernel
theorem d_Waves_house_227 : decode b_Waves_house 227 = .ok (.invokevirtual 123, 3) := by decide +kernel
theorem d_Waves_house_230 : decode b_Waves_house 230 = .ok (.ireturn, 1) := by decide +kernel
theorem d_Waves_house_231 : decode b_Waves_house 231 = .ok (.aload_n 0, 1) := by decide +kernel
theorem d_Waves_house_232 : decode b_Waves_house 232 = .ok (.getfield 10, 3) := by decide +kernel
theorem d_Waves_house_235 : decode b_Waves_house 235 = .ok (.getfield 68, 3) := by decide +kernel
theorem d_Waves_house_238 : decode b_Waves_house 238 = .ok (.getfield 204, 3) := by decide +kernel
theorem d_Waves_house_241 : decode b_Waves_house 241 = .ok (.iload_n 1, 1) := by decide +kernel
theorem d_Waves_house_242 : decode b_Waves_house 242 = .ok (.invokevirtual 123, 3) := by decide +kernel
theorem d_Waves_house_245 : decode b_Waves_house 245 = .ok (.ireturn, 1) := by decide +kernel
theorem d_Waves_house_246 : decode b_Waves_house 246 = .ok (.aload_n 0, 1) := by decide +kernel
theorem d_Waves_house_247 : decode b_Waves_house 247 = .ok (.getfield 10, 3) := by decide +kernel
theorem d_Waves_house_250 : decode b_Waves_house 250 = .ok (.getfield 145, 3) := by decide +kernel
theorem d_Waves_house_253 : decode b_Waves_house 253 = .ok (.iload_n 1, 1) := by decide +kernel
theorem d_Waves_house_254 : decode b_Waves_house 254 = .ok (.invokevirtual 207, 3) := by decide +kernel
theorem d_Waves_house_257 : decode b_Waves_house 257 = .ok (.ireturn, 1) := by decide +kernel
theorem d_Waves_house_258 : decode b_Waves_house 258 = .ok (.aload_n 0, 1) := by decide +kernel
theorem d_Waves_house_259 : decode b_Waves_house 259 = .ok (.getfield 10, 3) := by decide +kernel
theorem d_Waves_house_262 : decode b_Waves_house 262 = .ok (.getfield 145, 3) := by decide +kernel
theorem d_Waves_house_265 : decode b_Waves_house 265 = .ok (.iload_n 1, 1) := by decide +kernel
theorem d_Waves_house_266 : decode b_Waves_house 266 = .ok (.invokevirtual 210, 3) := by decide +kernel
theorem d_Waves_house_269 : decode b_Waves_house 269 = .ok (.ireturn, 1) := by decide +kernel
theorem d_Waves_house_270 : decode b_Waves_house 270 = .ok (.aload_n 0, 1) := by decide +kernel
theorem d_Waves_house_271 : decode b_Waves_house 271 = .ok (.getfield 10, 3) := by decide +kernel
theorem d_Waves_house_274 : decode b_Waves_house 274 = .ok (.getfield 145, 3) := by decide +kernel
theorem d_Waves_house_277 : decode b_Waves_house 277 = .ok (.iload_n 1, 1) := by decide +kernel
theorem d_Waves_house_278 : decode b_Waves_house 278 = .ok (.invokevirtual 213, 3) := by decide +kernel
theorem d_Waves_house_281 : decode b_Waves_house 281 = .ok (.ireturn, 1) := by decide +kernel
theorem d_Waves_house_282 : decode b_Waves_house 282 = .ok (.aload_n 0, 1) := by decide +kernel
theorem d_Waves_house_283 : decode b_Waves_house 283 = .ok (.getfield 10, 3) := by decide +kernel
theorem d_Waves_house_286 : decode b_Waves_house 286 = .ok (.getfield 174, 3) := by decide +kernel
theorem d_Waves_house_289 : decode b_Waves_house 289 = .ok (.iload_n 1, 1) := by decide +kernel
theorem d_Waves_house_290 : decode b_Waves_house 290 = .ok (.invokevirtual 216, 3) := by decide +kernel
theorem d_Waves_house_293 : decode b_Waves_house 293 = .ok (.aload_n 0, 1) := by decide +kernel
theorem d_Waves_house_294 : decode b_Waves_house 294 = .ok (.getfield 10, 3) := by decide +kernel
theorem d_Waves_house_297 : decode b_Waves_house 297 = .ok (.getfield 182, 3) := by decide +kernel
theorem d_Waves_house_300 : decode b_Waves_house 300 = .ok (.iload_n 1, 1) := by decide +kernel
theorem d_Waves_house_301 : decode b_Waves_house 301 = .ok (.invokevirtual 216, 3) := by decide +kernel
theorem d_Waves_house_304 : decode b_Waves_house 304 = .ok (.iadd, 1) := by decide +kernel
theorem d_Waves_house_305 : decode b_Waves_house 305 = .ok (.ireturn, 1) := by decide +kernel
theorem d_Waves_house_306 : decode b_Waves_house 306 = .ok (.aload_n 0, 1) := by decide +kernel
theorem d_Waves_house_307 : decode b_Waves_house 307 = .ok (.getfield 10, 3) := by decide +kernel
theorem d_Waves_house_310 : decode b_Waves_house 310 = .ok (.getfield 68, 3) := by decide +kernel
theorem d_Waves_house_313 : decode b_Waves_house 313 = .ok (.getfield 219, 3) := by decide +kernel
theorem d_Waves_house_316 : decode b_Waves_house 316 = .ok (.iload_n 1, 1) := by decide +kernel
theorem d_Waves_house_317 : decode b_Waves_house 317 = .ok (.invokevirtual 123, 3) := by decide +kernel
theorem d_Waves_house_320 : decode b_Waves_house 320 = .ok (.ireturn, 1) := by decide +kernel
def F_Waves_house (a0 : Int32) (a1 : Int32) (σ : zSt) : Option ((Int32) ⊕ String) :=
  (F_Waves_checkHouse a0 σ).bind fun q2 => match q2 with | .inr E55 => some (.inr E55) | .inl _ => (F_Waves_checkWithin a1 (0 : Int32) (14 : Int32) σ).bind fun q4 => match q4 with | .inr E54 => some (.inr E54) | .inl _ => if a1 = (0 : Int32) then ((F_Row_get 0 4 a0 σ).bind fun r7 => some (.inl r7)) else (if a1 = (1 : Int32) then ((F_Row_get 0 6 a0 σ).bind fun r10 => some (.inl r10)) else (if a1 = (2 : Int32) then ((F_Row_get 0 8 a0 σ).bind fun r13 => some (.inl r13)) else (if a1 = (3 : Int32) then ((F_Row_get 0 10 a0 σ).bind fun r16 => some (.inl r16)) else (if a1 = (4 : Int32) then ((F_Row_get 0 12 a0 σ).bind fun r19 => some (.inl r19)) else (if a1 = (5 : Int32) then ((F_Row_get 0 14 a0 σ).bind fun r22 => some (.inl r22)) else (if a1 = (6 : Int32) then ((F_Row_get 0 16 a0 σ).bind fun r25 => some (.inl r25)) else (if a1 = (7 : Int32) then ((F_Village_minuteOfDay 0 σ).bind fun r28 => (F_Homes_isQuiet 0 a0 r28 σ).bind fun r30 => if r30 = 0 then some (.inl (0 : Int32)) else some (.inl (1 : Int32))) else (if a1 = (8 : Int32) then ((F_Row_get 0 18 a0 σ).bind fun r34 => some (.inl r34)) else (if a1 = (9 : Int32) then ((F_Row_get 0 20 a0 σ).bind fun r37 => some (.inl r37)) else (if a1 = (10 : Int32) then ((F_Tidings_newsKnownAt 0 a0 σ).bind fun r40 => some (.inl r40)) else (if a1 = (11 : Int32) then ((F_Tidings_correctionsKnownAt 0 a0 σ).bind fun r43 => some (.inl r43)) else (if a1 = (12 : Int32) then ((F_Tidings_uncorrectedAt 0 a0 σ).bind fun r46 => some (.inl r46)) else (if a1 = (13 : Int32) then ((F_Entries_size 0 43 a0 σ).bind fun r49 => (F_Entries_size 0 48 a0 σ).bind fun r51 => some (.inl (r49 + r51))) else ((F_Row_get 0 22 a0 σ).bind fun r53 => some (.inl r53)))))))))))))))
set_option maxHeartbeats 4000000 in
set_option maxRecDepth 100000 in
theorem c_Waves_house {l : Launch} (hst : l.stackTraces = false) {G : zLA} (hx : zxl G) {a0 : Int32} {a1 : Int32} {σ : zSt} {out : (Int32) ⊕ String} (hf : F_Waves_house a0 a1 σ = some out) : zX l G y_Waves_house (zws y_Waves_house b_Waves_house 3 (some .int)) rm_Waves_house [.ref (zad G 4 70), .int a0, .int a1] σ (cv_pi out σ) := by
  refine z_ofX (own := "VillageWaves") (lv := [(0, .ref (zad G 4 70)), (1, .int a0), (2, .int a1)]) (by decide +kernel) rfl rfl (Nat.le_of_ble_eq_true rfl) (fun p e s m args below meth c C X0 => ?_)
  have X : zXx l c := ⟨hst, X0⟩
  rw [F_Waves_house] at hf
  refine z_aload_n C d_Waves_house_0 0 rfl rfl ?_
  refine z_iload_n C d_Waves_house_1 1 rfl rfl ?_
  obtain ⟨q2, h1, hf⟩ := bd_s hf
  cases q2 with
  | inr E55 =>
    cases hf
    exact z_tXVv C kl_Waves_93 rfl (c_Waves_checkHouse X.1 hx h1) (zx4 hx 70 rfl) rfl rfl rfl (Nat.le_of_ble_eq_true rfl) ⟨(Nat.le_of_ble_eq_true rfl), (Nat.le_of_ble_eq_true rfl)⟩ ⟨(Nat.le_of_ble_eq_true rfl), (Nat.le_of_ble_eq_true rfl)⟩ d_Waves_house_2 X rfl (Nat.le_of_ble_eq_true rfl) (Nat.le_of_ble_eq_true rfl)
  | inl _ =>
    refine z_cXVv C kl_Waves_93 rfl (c_Waves_checkHouse X.1 hx h1) (zx4 hx 70 rfl) rfl rfl rfl (Nat.le_of_ble_eq_true rfl) ⟨(Nat.le_of_ble_eq_true rfl), (Nat.le_of_ble_eq_true rfl)⟩ ⟨(Nat.le_of_ble_eq_true rfl), (Nat.le_of_ble_eq_true rfl)⟩ d_Waves_house_2 ?_
    refine z_iload_n C d_Waves_house_5 2 rfl rfl ?_
    refine z_iconst C d_Waves_house_6 zki_0 ?_
    refine z_bipush C d_Waves_house_7 zkb_14 ?_
    obtain ⟨q4, h3, hf⟩ := bd_s hf
    cases q4 with
    | inr E54 =>
      cases hf
      exact z_tXSv C kl_Waves_56 (c_Waves_checkWithin X.1 h3) rfl rfl (Nat.le_of_ble_eq_true rfl) ⟨(Nat.le_of_ble_eq_true rfl), (Nat.le_of_ble_eq_true rfl)⟩ ⟨(Nat.le_of_ble_eq_true rfl), (Nat.le_of_ble_eq_true rfl)⟩ d_Waves_house_9 X rfl (Nat.le_of_ble_eq_true rfl) (Nat.le_of_ble_eq_true rfl)
    | inl _ =>
      refine z_cXSv C kl_Waves_56 (c_Waves_checkWithin X.1 h3) rfl rfl (Nat.le_of_ble_eq_true rfl) ⟨(Nat.le_of_ble_eq_true rfl), (Nat.le_of_ble_eq_true rfl)⟩ ⟨(Nat.le_of_ble_eq_true rfl), (Nat.le_of_ble_eq_true rfl)⟩ d_Waves_house_9 ?_
      refine z_iload_n C d_Waves_house_12 2 rfl rfl ?_
      by_cases h5 : a1 = (0 : Int32)
      · have hf := iff_t hf h5
        refine z_tin (off := 71) (tgt := 84) C d_Waves_house_13 (by rw [h5]; decide) (by rw [h5]; decide) (by rw [h5]; rfl) rfl ?_
        refine z_aload_n C d_Waves_house_84 0 rfl rfl ?_
        refine gf_Waves_10 C (zx4 hx 70 rfl) rfl rfl d_Waves_house_85 ?_
        refine gf_Waves_68 C (zlv (zxv hx 0 rfl) 0 rfl) rfl rfl d_Waves_house_88 ?_
        refine gf_Waves_185 C (zlv (zxv hx 0 rfl) 3 rfl) rfl rfl d_Waves_house_91 ?_
        refine z_iload_n C d_Waves_house_94 1 rfl rfl ?_
        obtain ⟨r7, h6, hf⟩ := bd_s hf
        refine z_cVi C kl_Waves_123 rfl (c_Row_get (zrow_v (zxv hx 0 rfl) 4 rfl) h6) (zlv (zxv hx 0 rfl) 4 rfl) rfl rfl rfl (Nat.le_of_ble_eq_true rfl) ⟨(Nat.le_of_ble_eq_true rfl), (Nat.le_of_ble_eq_true rfl)⟩ ⟨(Nat.le_of_ble_eq_true rfl), (Nat.le_of_ble_eq_true rfl)⟩ d_Waves_house_95 ?_
        cases hf
        refine z_xret rfl ?_
        exact z_iret C rfl (Nat.le_of_ble_eq_true rfl) (Nat.le_of_ble_eq_true rfl) d_Waves_house_98
      · have hf := iff_f hf h5
        by_cases h8 : a1 = (1 : Int32)
        · have hf := iff_t hf h8
          refine z_tin (off := 86) (tgt := 99) C d_Waves_house_13 (by rw [h8]; decide) (by rw [h8]; decide) (by rw [h8]; rfl) rfl ?_
          refine z_aload_n C d_Waves_house_99 0 rfl rfl ?_
          refine gf_Waves_10 C (zx4 hx 70 rfl) rfl rfl d_Waves_house_100 ?_
          refine gf_Waves_68 C (zlv (zxv hx 0 rfl) 0 rfl) rfl rfl d_Waves_house_103 ?_
          refine gf_Waves_188 C (zlv (zxv hx 0 rfl) 3 rfl) rfl rfl d_Waves_house_106 ?_
          refine z_iload_n C d_Waves_house_109 1 rfl rfl ?_
          obtain ⟨r10, h9, hf⟩ := bd_s hf
          refine z_cVi C kl_Waves_123 rfl (c_Row_get (zrow_v (zxv hx 0 rfl) 6 rfl) h9) (zlv (zxv hx 0 rfl) 6 rfl) rfl rfl rfl (Nat.le_of_ble_eq_true rfl) ⟨(Nat.le_of_ble_eq_true rfl), (Nat.le_of_ble_eq_true rfl)⟩ ⟨(Nat.le_of_ble_eq_true rfl), (Nat.le_of_ble_eq_true rfl)⟩ d_Waves_house_110 ?_
          cases hf
          refine z_xret rfl ?_
          exact z_iret C rfl (Nat.le_of_ble_eq_true rfl) (Nat.le_of_ble_eq_true rfl) d_Waves_house_113
        · have hf := iff_f hf h8
          by_cases h11 : a1 = (2 : Int32)
          · have hf := iff_t hf h11
            refine z_tin (off := 101) (tgt := 114) C d_Waves_house_13 (by rw [h11]; decide) (by rw [h11]; decide) (by rw [h11]; rfl) rfl ?_
            refine z_aload_n C d_Waves_house_114 0 rfl rfl ?_
            refine gf_Waves_10 C (zx4 hx 70 rfl) rfl rfl d_Waves_house_115 ?_
            refine gf_Waves_68 C (zlv (zxv hx 0 rfl) 0 rfl) rfl rfl d_Waves_house_118 ?_
            refine gf_Waves_191 C (zlv (zxv hx 0 rfl) 3 rfl) rfl rfl d_Waves_house_121 ?_
            refine z_iload_n C d_Waves_house_124 1 rfl rfl ?_
            obtain ⟨r13, h12, hf⟩ := bd_s hf
            refine z_cVi C kl_Waves_123 rfl (c_Row_get (zrow_v (zxv hx 0 rfl) 8 rfl) h12) (zlv (zxv hx 0 rfl) 8 rfl) rfl rfl rfl (Nat.le_of_ble_eq_true rfl) ⟨(Nat.le_of_ble_eq_true rfl), (Nat.le_of_ble_eq_true rfl)⟩ ⟨(Nat.le_of_ble_eq_true rfl), (Nat.le_of_ble_eq_true rfl)⟩ d_Waves_house_125 ?_
            cases hf
            refine z_xret rfl ?_
            exact z_iret C rfl (Nat.le_of_ble_eq_true rfl) (Nat.le_of_ble_eq_true rfl) d_Waves_house_128
          · have hf := iff_f hf h11
            by_cases h14 : a1 = (3 : Int32)
            · have hf := iff_t hf h14
              refine z_tin (off := 116) (tgt := 129) C d_Waves_house_13 (by rw [h14]; decide) (by rw [h14]; decide) (by rw [h14]; rfl) rfl ?_
              refine z_aload_n C d_Waves_house_129 0 rfl rfl ?_
              refine gf_Waves_10 C (zx4 hx 70 rfl) rfl rfl d_Waves_house_130 ?_
              refine gf_Waves_68 C (zlv (zxv hx 0 rfl) 0 rfl) rfl rfl d_Waves_house_133 ?_
              refine gf_Waves_120 C (zlv (zxv hx 0 rfl) 3 rfl) rfl rfl d_Waves_house_136 ?_
              refine z_iload_n C d_Waves_house_139 1 rfl rfl ?_
              obtain ⟨r16, h15, hf⟩ := bd_s hf
              refine z_cVi C kl_Waves_123 rfl (c_Row_get (zrow_v (zxv hx 0 rfl) 10 rfl) h15) (zlv (zxv hx 0 rfl) 10 rfl) rfl rfl rfl (Nat.le_of_ble_eq_true rfl) ⟨(Nat.le_of_ble_eq_true rfl), (Nat.le_of_ble_eq_true rfl)⟩ ⟨(Nat.le_of_ble_eq_true rfl), (Nat.le_of_ble_eq_true rfl)⟩ d_Waves_house_140 ?_
              cases hf
              refine z_xret rfl ?_
              exact z_iret C rfl (Nat.le_of_ble_eq_true rfl) (Nat.le_of_ble_eq_true rfl) d_Waves_house_143
            · have hf := iff_f hf h14
              by_cases h17 : a1 = (4 : Int32)
              · have hf := iff_t hf h17
                refine z_tin (off := 131) (tgt := 144) C d_Waves_house_13 (by rw [h17]; decide) (by rw [h17]; decide) (by rw [h17]; rfl) rfl ?_
                refine z_aload_n C d_Waves_house_144 0 rfl rfl ?_
                refine gf_Waves_10 C (zx4 hx 70 rfl) rfl rfl d_Waves_house_145 ?_
                refine gf_Waves_68 C (zlv (zxv hx 0 rfl) 0 rfl) rfl rfl d_Waves_house_148 ?_
                refine gf_Waves_194 C (zlv (zxv hx 0 rfl) 3 rfl) rfl rfl d_Waves_house_151 ?_
                refine z_iload_n C d_Waves_house_154 1 rfl rfl ?_
                obtain ⟨r19, h18, hf⟩ := bd_s hf
                refine z_cVi C kl_Waves_123 rfl (c_Row_get (zrow_v (zxv hx 0 rfl) 12 rfl) h18) (zlv (zxv hx 0 rfl) 12 rfl) rfl rfl rfl (Nat.le_of_ble_eq_true rfl) ⟨(Nat.le_of_ble_eq_true rfl), (Nat.le_of_ble_eq_true rfl)⟩ ⟨(Nat.le_of_ble_eq_true rfl), (Nat.le_of_ble_eq_true rfl)⟩ d_Waves_house_155 ?_
                cases hf
                refine z_xret rfl ?_
                exact z_iret C rfl (Nat.le_of_ble_eq_true rfl) (Nat.le_of_ble_eq_true rfl) d_Waves_house_158
              · have hf := iff_f hf h17
                by_cases h20 : a1 = (5 : Int32)
                · have hf := iff_t hf h20
                  refine z_tin (off := 146) (tgt := 159) C d_Waves_house_13 (by rw [h20]; decide) (by rw [h20]; decide) (by rw [h20]; rfl) rfl ?_
                  refine z_aload_n C d_Waves_house_159 0 rfl rfl ?_
                  refine gf_Waves_10 C (zx4 hx 70 rfl) rfl rfl d_Waves_house_160 ?_
                  refine gf_Waves_68 C (zlv (zxv hx 0 rfl) 0 rfl) rfl rfl d_Waves_house_163 ?_
                  refine gf_Waves_104 C (zlv (zxv hx 0 rfl) 3 rfl) rfl rfl d_Waves_house_166 ?_
                  refine z_iload_n C d_Waves_house_169 1 rfl rfl ?_
                  obtain ⟨r22, h21, hf⟩ := bd_s hf
                  refine z_cVi C kl_Waves_123 rfl (c_Row_get (zrow_v (zxv hx 0 rfl) 14 rfl) h21) (zlv (zxv hx 0 rfl) 14 rfl) rfl rfl rfl (Nat.le_of_ble_eq_true rfl) ⟨(Nat.le_of_ble_eq_true rfl), (Nat.le_of_ble_eq_true rfl)⟩ ⟨(Nat.le_of_ble_eq_true rfl), (Nat.le_of_ble_eq_true rfl)⟩ d_Waves_house_170 ?_
                  cases hf
                  refine z_xret rfl ?_
                  exact z_iret C rfl (Nat.le_of_ble_eq_true rfl) (Nat.le_of_ble_eq_true rfl) d_Waves_house_173
                · have hf := iff_f hf h20
                  by_cases h23 : a1 = (6 : Int32)
                  · have hf := iff_t hf h23
                    refine z_tin (off := 161) (tgt := 174) C d_Waves_house_13 (by rw [h23]; decide) (by rw [h23]; decide) (by rw [h23]; rfl) rfl ?_
                    refine z_aload_n C d_Waves_house_174 0 rfl rfl ?_
                    refine gf_Waves_10 C (zx4 hx 70 rfl) rfl rfl d_Waves_house_175 ?_
                    refine gf_Waves_68 C (zlv (zxv hx 0 rfl) 0 rfl) rfl rfl d_Waves_house_178 ?_
                    refine gf_Waves_114 C (zlv (zxv hx 0 rfl) 3 rfl) rfl rfl d_Waves_house_181 ?_
                    refine z_iload_n C d_Waves_house_184 1 rfl rfl ?_
                    obtain ⟨r25, h24, hf⟩ := bd_s hf
                    refine z_cVi C kl_Waves_123 rfl (c_Row_get (zrow_v (zxv hx 0 rfl) 16 rfl) h24) (zlv (zxv hx 0 rfl) 16 rfl) rfl rfl rfl (Nat.le_of_ble_eq_true rfl) ⟨(Nat.le_of_ble_eq_true rfl), (Nat.le_of_ble_eq_true rfl)⟩ ⟨(Nat.le_of_ble_eq_true rfl), (Nat.le_of_ble_eq_true rfl)⟩ d_Waves_house_185 ?_
                    cases hf
                    refine z_xret rfl ?_
                    exact z_iret C rfl (Nat.le_of_ble_eq_true rfl) (Nat.le_of_ble_eq_true rfl) d_Waves_house_188
                  · have hf := iff_f hf h23
                    by_cases h26 : a1 = (7 : Int32)
                    · have hf := iff_t hf h26
                      refine z_tin (off := 176) (tgt := 189) C d_Waves_house_13 (by rw [h26]; decide) (by rw [h26]; decide) (by rw [h26]; rfl) rfl ?_
                      refine z_aload_n C d_Waves_house_189 0 rfl rfl ?_
                      refine gf_Waves_10 C (zx4 hx 70 rfl) rfl rfl d_Waves_house_190 ?_
                      refine gf_Waves_68 C (zlv (zxv hx 0 rfl) 0 rfl) rfl rfl d_Waves_house_193 ?_
                      refine z_iload_n C d_Waves_house_196 1 rfl rfl ?_
                      refine z_aload_n C d_Waves_house_197 0 rfl rfl ?_
                      refine gf_Waves_10 C (zx4 hx 70 rfl) rfl rfl d_Waves_house_198 ?_
                      obtain ⟨r28, h27, hf⟩ := bd_s hf
                      refine z_cVi C kl_Waves_164 rfl (c_Village_minuteOfDay (zxv hx 0 rfl) h27) (zlv (zxv hx 0 rfl) 0 rfl) rfl rfl rfl (Nat.le_of_ble_eq_true rfl) ⟨(Nat.le_of_ble_eq_true rfl), (Nat.le_of_ble_eq_true rfl)⟩ ⟨(Nat.le_of_ble_eq_true rfl), (Nat.le_of_ble_eq_true rfl)⟩ d_Waves_house_201 ?_
                      obtain ⟨r30, h29, hf⟩ := bd_s hf
                      refine z_cVi C kl_Waves_197 rfl (c_Homes_isQuiet (zxv hx 0 rfl) h29) (zlv (zxv hx 0 rfl) 3 rfl) rfl rfl rfl (Nat.le_of_ble_eq_true rfl) ⟨(Nat.le_of_ble_eq_true rfl), (Nat.le_of_ble_eq_true rfl)⟩ ⟨(Nat.le_of_ble_eq_true rfl), (Nat.le_of_ble_eq_true rfl)⟩ d_Waves_house_204 ?_
                      refine z_if_eq (tgt := 214) C d_Waves_house_207 rfl (fun h31 => ?_) (fun h31 => ?_)
                      · have hf := iff_t hf h31
                        refine z_iconst C d_Waves_house_214 zki_0 ?_
                        cases hf
                        refine z_xret rfl ?_
                        exact z_iret C rfl (Nat.le_of_ble_eq_true rfl) (Nat.le_of_ble_eq_true rfl) d_Waves_house_215
                      · have hf := iff_f hf h31
                        refine z_iconst C d_Waves_house_210 zki_1 ?_
                        refine z_goto (tgt := 215) C d_Waves_house_211 rfl ?_
                        cases hf
                        refine z_xret rfl ?_
                        exact z_iret C rfl (Nat.le_of_ble_eq_true rfl) (Nat.le_of_ble_eq_true rfl) d_Waves_house_215
                    · have hf := iff_f hf h26
                      by_cases h32 : a1 = (8 : Int32)
                      · have hf := iff_t hf h32
                        refine z_tin (off := 203) (tgt := 216) C d_Waves_house_13 (by rw [h32]; decide) (by rw [h32]; decide) (by rw [h32]; rfl) rfl ?_
                        refine z_aload_n C d_Waves_house_216 0 rfl rfl ?_
                        refine gf_Waves_10 C (zx4 hx 70 rfl) rfl rfl d_Waves_house_217 ?_
                        refine gf_Waves_68 C (zlv (zxv hx 0 rfl) 0 rfl) rfl rfl d_Waves_house_220 ?_
                        refine gf_Waves_201 C (zlv (zxv hx 0 rfl) 3 rfl) rfl rfl d_Waves_house_223 ?_
                        refine z_iload_n C d_Waves_house_226 1 rfl rfl ?_
                        obtain ⟨r34, h33, hf⟩ := bd_s hf
                        refine z_cVi C kl_Waves_123 rfl (c_Row_get (zrow_v (zxv hx 0 rfl) 18 rfl) h33) (zlv (zxv hx 0 rfl) 18 rfl) rfl rfl rfl (Nat.le_of_ble_eq_true rfl) ⟨(Nat.le_of_ble_eq_true rfl), (Nat.le_of_ble_eq_true rfl)⟩ ⟨(Nat.le_of_ble_eq_true rfl), (Nat.le_of_ble_eq_true rfl)⟩ d_Waves_house_227 ?_
                        cases hf
                        refine z_xret rfl ?_
                        exact z_iret C rfl (Nat.le_of_ble_eq_true rfl) (Nat.le_of_ble_eq_true rfl) d_Waves_house_230
                      · have hf := iff_f hf h32
                        by_cases h35 : a1 = (9 : Int32)
                        · have hf := iff_t hf h35
                          refine z_tin (off := 218) (tgt := 231) C d_Waves_house_13 (by rw [h35]; decide) (by rw [h35]; decide) (by rw [h35]; rfl) rfl ?_
                          refine z_aload_n C d_Waves_house_231 0 rfl rfl ?_
                          refine gf_Waves_10 C (zx4 hx 70 rfl) rfl rfl d_Waves_house_232 ?_
                          refine gf_Waves_68 C (zlv (zxv hx 0 rfl) 0 rfl) rfl rfl d_Waves_house_235 ?_
                          refine gf_Waves_204 C (zlv (zxv hx 0 rfl) 3 rfl) rfl rfl d_Waves_house_238 ?_
                          refine z_iload_n C d_Waves_house_241 1 rfl rfl ?_
                          obtain ⟨r37, h36, hf⟩ := bd_s hf
                          refine z_cVi C kl_Waves_123 rfl (c_Row_get (zrow_v (zxv hx 0 rfl) 20 rfl) h36) (zlv (zxv hx 0 rfl) 20 rfl) rfl rfl rfl (Nat.le_of_ble_eq_true rfl) ⟨(Nat.le_of_ble_eq_true rfl), (Nat.le_of_ble_eq_true rfl)⟩ ⟨(Nat.le_of_ble_eq_true rfl), (Nat.le_of_ble_eq_true rfl)⟩ d_Waves_house_242 ?_
                          cases hf
                          refine z_xret rfl ?_
                          exact z_iret C rfl (Nat.le_of_ble_eq_true rfl) (Nat.le_of_ble_eq_true rfl) d_Waves_house_245
                        · have hf := iff_f hf h35
                          by_cases h38 : a1 = (10 : Int32)
                          · have hf := iff_t hf h38
                            refine z_tin (off := 233) (tgt := 246) C d_Waves_house_13 (by rw [h38]; decide) (by rw [h38]; decide) (by rw [h38]; rfl) rfl ?_
                            refine z_aload_n C d_Waves_house_246 0 rfl rfl ?_
                            refine gf_Waves_10 C (zx4 hx 70 rfl) rfl rfl d_Waves_house_247 ?_
                            refine gf_Waves_145 C (zlv (zxv hx 0 rfl) 0 rfl) rfl rfl d_Waves_house_250 ?_
                            refine z_iload_n C d_Waves_house_253 1 rfl rfl ?_
                            obtain ⟨r40, h39, hf⟩ := bd_s hf
                            refine z_cVi C kl_Waves_207 rfl (c_Tidings_newsKnownAt (zxv hx 0 rfl) h39) (zlv (zxv hx 0 rfl) 24 rfl) rfl rfl rfl (Nat.le_of_ble_eq_true rfl) ⟨(Nat.le_of_ble_eq_true rfl), (Nat.le_of_ble_eq_true rfl)⟩ ⟨(Nat.le_of_ble_eq_true rfl), (Nat.le_of_ble_eq_true rfl)⟩ d_Waves_house_254 ?_
                            cases hf
                            refine z_xret rfl ?_
                            exact z_iret C rfl (Nat.le_of_ble_eq_true rfl) (Nat.le_of_ble_eq_true rfl) d_Waves_house_257
                          · have hf := iff_f hf h38
                            by_cases h41 : a1 = (11 : Int32)
                            · have hf := iff_t hf h41
                              refine z_tin (off := 245) (tgt := 258) C d_Waves_house_13 (by rw [h41]; decide) (by rw [h41]; decide) (by rw [h41]; rfl) rfl ?_
                              refine z_aload_n C d_Waves_house_258 0 rfl rfl ?_
                              refine gf_Waves_10 C (zx4 hx 70 rfl) rfl rfl d_Waves_house_259 ?_
                              refine gf_Waves_145 C (zlv (zxv hx 0 rfl) 0 rfl) rfl rfl d_Waves_house_262 ?_
                              refine z_iload_n C d_Waves_house_265 1 rfl rfl ?_
                              obtain ⟨r43, h42, hf⟩ := bd_s hf
                              refine z_cVi C kl_Waves_210 rfl (c_Tidings_correctionsKnownAt (zxv hx 0 rfl) h42) (zlv (zxv hx 0 rfl) 24 rfl) rfl rfl rfl (Nat.le_of_ble_eq_true rfl) ⟨(Nat.le_of_ble_eq_true rfl), (Nat.le_of_ble_eq_true rfl)⟩ ⟨(Nat.le_of_ble_eq_true rfl), (Nat.le_of_ble_eq_true rfl)⟩ d_Waves_house_266 ?_
                              cases hf
                              refine z_xret rfl ?_
                              exact z_iret C rfl (Nat.le_of_ble_eq_true rfl) (Nat.le_of_ble_eq_true rfl) d_Waves_house_269
                            · have hf := iff_f hf h41
                              by_cases h44 : a1 = (12 : Int32)
                              · have hf := iff_t hf h44
                                refine z_tin (off := 257) (tgt := 270) C d_Waves_house_13 (by rw [h44]; decide) (by rw [h44]; decide) (by rw [h44]; rfl) rfl ?_
                                refine z_aload_n C d_Waves_house_270 0 rfl rfl ?_
                                refine gf_Waves_10 C (zx4 hx 70 rfl) rfl rfl d_Waves_house_271 ?_
                                refine gf_Waves_145 C (zlv (zxv hx 0 rfl) 0 rfl) rfl rfl d_Waves_house_274 ?_
                                refine z_iload_n C d_Waves_house_277 1 rfl rfl ?_
                                obtain ⟨r46, h45, hf⟩ := bd_s hf
                                refine z_cVi C kl_Waves_213 rfl (c_Tidings_uncorrectedAt (zxv hx 0 rfl) h45) (zlv (zxv hx 0 rfl) 24 rfl) rfl rfl rfl (Nat.le_of_ble_eq_true rfl) ⟨(Nat.le_of_ble_eq_true rfl), (Nat.le_of_ble_eq_true rfl)⟩ ⟨(Nat.le_of_ble_eq_true rfl), (Nat.le_of_ble_eq_true rfl)⟩ d_Waves_house_278 ?_
                                cases hf
                                refine z_xret rfl ?_
                                exact z_iret C rfl (Nat.le_of_ble_eq_true rfl) (Nat.le_of_ble_eq_true rfl) d_Waves_house_281
                              · have hf := iff_f hf h44
                                by_cases h47 : a1 = (13 : Int32)
                                · have hf := iff_t hf h47
                                  refine z_tin (off := 269) (tgt := 282) C d_Waves_house_13 (by rw [h47]; decide) (by rw [h47]; decide) (by rw [h47]; rfl) rfl ?_
                                  refine z_aload_n C d_Waves_house_282 0 rfl rfl ?_
                                  refine gf_Waves_10 C (zx4 hx 70 rfl) rfl rfl d_Waves_house_283 ?_
                                  refine gf_Waves_174 C (zlv (zxv hx 0 rfl) 0 rfl) rfl rfl d_Waves_house_286 ?_
                                  refine z_iload_n C d_Waves_house_289 1 rfl rfl ?_
                                  obtain ⟨r49, h48, hf⟩ := bd_s hf
                                  refine z_cVi C kl_Waves_216 rfl (c_Entries_size (zxv hx 0 rfl) (Or.inl rfl) h48) (zlv (zxv hx 0 rfl) 43 rfl) rfl rfl rfl (Nat.le_of_ble_eq_true rfl) ⟨(Nat.le_of_ble_eq_true rfl), (Nat.le_of_ble_eq_true rfl)⟩ ⟨(Nat.le_of_ble_eq_true rfl), (Nat.le_of_ble_eq_true rfl)⟩ d_Waves_house_290 ?_
                                  refine z_aload_n C d_Waves_house_293 0 rfl rfl ?_
                                  refine gf_Waves_10 C (zx4 hx 70 rfl) rfl rfl d_Waves_house_294 ?_
                                  refine gf_Waves_182 C (zlv (zxv hx 0 rfl) 0 rfl) rfl rfl d_Waves_house_297 ?_
                                  refine z_iload_n C d_Waves_house_300 1 rfl rfl ?_
                                  obtain ⟨r51, h50, hf⟩ := bd_s hf
                                  refine z_cVi C kl_Waves_216 rfl (c_Entries_size (zxv hx 0 rfl) (Or.inr rfl) h50) (zlv (zxv hx 0 rfl) 48 rfl) rfl rfl rfl (Nat.le_of_ble_eq_true rfl) ⟨(Nat.le_of_ble_eq_true rfl), (Nat.le_of_ble_eq_true rfl)⟩ ⟨(Nat.le_of_ble_eq_true rfl), (Nat.le_of_ble_eq_true rfl)⟩ d_Waves_house_301 ?_
                                  refine z_iadd C d_Waves_house_304 ?_
                                  cases hf
                                  refine z_xret rfl ?_
                                  exact z_iret C rfl (Nat.le_of_ble_eq_true rfl) (Nat.le_of_ble_eq_true rfl) d_Waves_house_305
                                · have hf := iff_f hf h47
                                  refine z_tout (tgt := 306) C d_Waves_house_13 (ztab_0_13 h5 h8 h11 h14 h17 h20 h23 h26 h32 h35 h38 h41 h44 h47) rfl ?_
                                  refine z_aload_n C d_Waves_house_306 0 rfl rfl ?_
                                  refine gf_Waves_10 C (zx4 hx 70 rfl) rfl rfl d_Waves_house_307 ?_
                                  refine gf_Waves_68 C (zlv (zxv hx 0 rfl) 0 rfl) rfl rfl d_Waves_house_310 ?_
                                  refine gf_Waves_219 C (zlv (zxv hx 0 rfl) 3 rfl) rfl rfl d_Waves_house_313 ?_
                                  refine z_iload_n C d_Waves_house_316 1 rfl rfl ?_
                                  obtain ⟨r53, h52, hf⟩ := bd_s hf
                                  refine z_cVi C kl_Waves_123 rfl (c_Row_get (zrow_v (zxv hx 0 rfl) 22 rfl) h52) (zlv (zxv hx 0 rfl) 22 rfl) rfl rfl rfl (Nat.le_of_ble_eq_true rfl) ⟨(Nat.le_of_ble_eq_true rfl), (Nat.le_of_ble_eq_true rfl)⟩ ⟨(Nat.le_of_ble_eq_true rfl), (Nat.le_of_ble_eq_true rfl)⟩ d_Waves_house_317 ?_
                                  cases hf
                                  refine z_xret rfl ?_
                                  exact z_iret C rfl (Nat.le_of_ble_eq_true rfl) (Nat.le_of_ble_eq_true rfl) d_Waves_house_320
abbrev rm_Waves_correctionEntryFact : Room := { frames := 3, cells := 0, slots := 0, locals := 69 }
theorem d_Waves_correctionEntryFact_0 : decode b_Waves_correctionEntryFact 0 = .ok (.iload_n 3, 1) := by decide +kernel
theorem d_Waves_correctionEntryFact_1 : decode b_Waves_correctionEntryFact 1 = .ok (.tableswitch 50 0 3 #[31, 33, 35, 48], 31) := by decide +kernel
theorem d_Waves_correctionEntryFact_32 : decode b_Waves_correctionEntryFact 32 = .ok (.iconst 1, 1) := by decide +kernel
theorem d_Waves_correctionEntryFact_33 : decode b_Waves_correctionEntryFact 33 = .ok (.ireturn, 1) := by decide +kernel
theorem d_Waves_correctionEntryFact_34 : decode b_Waves_correctionEntryFact 34 = .ok (.iload_n 2, 1) := by decide +kernel
theorem d_Waves_correctionEntryFact_35 : decode b_Waves_correctionEntryFact 35 = .ok (.ireturn, 1) := by decide +kernel
theorem d_Waves_correctionEntryFact_36 : decode b_Waves_correctionEntryFact 36 = .ok (.aload_n 0, 1) := by decide +kernel
theorem d_Waves_correctionEntryFact_37 : decode b_Waves_correctionEntryFact 37 = .ok (.getfield 10, 3) := by decide +kernel
theorem d_Waves_correctionEntryFact_40 : decode b_Waves_correctionEntryFact 40 = .ok (.getfield 182, 3) := by decide +kernel
theorem d_Waves_correctionEntryFact_43 : decode b_Waves_correctionEntryFact 43 = .ok (.iload_n 1, 1) := by decide +kernel
theorem d_Waves_correctionEntryFact_44 : decode b_Waves_correctionEntryFact 44 = .ok (.iload_n 2, 1) := by decide +kernel
theorem d_Waves_correctionEntryFact_45 : decode b_Waves_correctionEntryFact 45 = .ok (.invokevirtual 357, 3) := by decide +kernel
theorem d_Waves_correctionEntryFact_48 : decode b_Waves_correctionEntryFact 48 = .ok (.ireturn, 1) := by decide +kernel
theorem d_Waves_correctionEntryFact_49 : decode b_Waves_correctionEntryFact 49 = .ok (.iconst (-1), 1) := by decide +kernel
theorem d_Waves_correctionEntryFact_50 : decode b_Waves_correctionEntryFact 50 = .ok (.ireturn, 1) := by decide +kernel
theorem d_Waves_correctionEntryFact_51 : decode b_Waves_correctionEntryFact 51 = .ok (.aload_n 0, 1) := by decide +kernel
theorem d_Waves_correctionEntryFact_52 : decode b_Waves_correctionEntryFact 52 = .ok (.getfield 10, 3) := by decide +kernel
theorem d_Waves_correctionEntryFact_55 : decode b_Waves_correctionEntryFact 55 = .ok (.iload_n 1, 1) := by decide +kernel
theorem d_Waves_correctionEntryFact_56 : decode b_Waves_correctionEntryFact 56 = .ok (.invokevirtual 359, 3) := by decide +kernel
theorem d_Waves_correctionEntryFact_59 : decode b_Waves_correctionEntryFact 59 = .ok (.iload_n 2, 1) := by decide +kernel
theorem d_Waves_correctionEntryFact_60 : decode b_Waves_correctionEntryFact 60 = .ok (.invokestatic 289, 3) := by decide +kernel
theorem d_Waves_correctionEntryFact_63 : decode b_Waves_correctionEntryFact 63 = .ok (.ifCond .eq 7, 3) := by decide +kernel
theorem d_Waves_correctionEntryFact_66 : decode b_Waves_correctionEntryFact 66 = .ok (.iconst 1, 1) := by decide +kernel
theorem d_Waves_correctionEntryFact_67 : decode b_Waves_correctionEntryFact 67 = .ok (.goto 4, 3) := by decide +kernel
theorem d_Waves_correctionEntryFact_70 : decode b_Waves_correctionEntryFact 70 = .ok (.iconst 0, 1) := by decide +kernel
theorem d_Waves_correctionEntryFact_71 : decode b_Waves_correctionEntryFact 71 = .ok (.ireturn, 1) := by decide +kernel
def F_Waves_correctionEntryFact (a0 : Int32) (a1 : Int32) (a2 : Int32) (σ : zSt) : Option (Int32) :=
  if a2 = (0 : Int32) then some (1 : Int32) else (if a2 = (1 : Int32) then some a1 else (if a2 = (2 : Int32) then ((F_Entries_time 0 48 a0 a1 σ).bind fun r5 => some r5) else (if a2 = (3 : Int32) then some (-1 : Int32) else ((F_Village_sendableCorrections 0 a0 σ).bind fun r8 => (F_Waves_contains r8 a1 σ).bind fun r10 => if r10 = 0 then some (0 : Int32) else some (1 : Int32)))))
set_option maxHeartbeats 4000000 in
set_option maxRecDepth 100000 in
theorem c_Waves_correctionEntryFact {l : Launch} {G : zLA} (hx : zxl G) {a0 : Int32} {a1 : Int32} {a2 : Int32} {σ : zSt} {r : Int32} (hf : F_Waves_correctionEntryFact a0 a1 a2 σ = some r) : zM l G y_Waves_correctionEntryFact (zws y_Waves_correctionEntryFact b_Waves_correctionEntryFact 4 (some .int)) rm_Waves_correctionEntryFact [.ref (zad G 4 70), .int a0, .int a1, .int a2] σ (some (.int r)) σ := by
  refine z_ofM (own := "VillageWaves") (lv := [(0, .ref (zad G 4 70)), (1, .int a0), (2, .int a1), (3, .int a2)]) (by decide +kernel) rfl rfl (Nat.le_of_ble_eq_true rfl) (fun p e s m args below meth c C => ?_)
  rw [F_Waves_correctionEntryFact] at hf
  refine z_iload_n C d_Waves_correctionEntryFact_0 3 rfl rfl ?_
  by_cases h1 : a2 = (0 : Int32)
  · have hf := iff_t hf h1
    refine z_tin (off := 31) (tgt := 32) C d_Waves_correctionEntryFact_1 (by rw [h1]; decide) (by rw [h1]; decide) (by rw [h1]; rfl) rfl ?_
    refine z_iconst C d_Waves_correctionEntryFact_32 zki_1 ?_
    cases hf
    exact z_iret C rfl (Nat.le_of_ble_eq_true rfl) (Nat.le_of_ble_eq_true rfl) d_Waves_correctionEntryFact_33
  · have hf := iff_f hf h1
    by_cases h2 : a2 = (1 : Int32)
    · have hf := iff_t hf h2
      refine z_tin (off := 33) (tgt := 34) C d_Waves_correctionEntryFact_1 (by rw [h2]; decide) (by rw [h2]; decide) (by rw [h2]; rfl) rfl ?_
      refine z_iload_n C d_Waves_correctionEntryFact_34 2 rfl rfl ?_
      cases hf
      exact z_iret C rfl (Nat.le_of_ble_eq_true rfl) (Nat.le_of_ble_eq_true rfl) d_Waves_correctionEntryFact_35
    · have hf := iff_f hf h2
      by_cases h3 : a2 = (2 : Int32)
      · have hf := iff_t hf h3
        refine z_tin (off := 35) (tgt := 36) C d_Waves_correctionEntryFact_1 (by rw [h3]; decide) (by rw [h3]; decide) (by rw [h3]; rfl) rfl ?_
        refine z_aload_n C d_Waves_correctionEntryFact_36 0 rfl rfl ?_
        refine gf_Waves_10 C (zx4 hx 70 rfl) rfl rfl d_Waves_correctionEntryFact_37 ?_
        refine gf_Waves_182 C (zlv (zxv hx 0 rfl) 0 rfl) rfl rfl d_Waves_correctionEntryFact_40 ?_
        refine z_iload_n C d_Waves_correctionEntryFact_43 1 rfl rfl ?_
        refine z_iload_n C d_Waves_correctionEntryFact_44 2 rfl rfl ?_
        obtain ⟨r5, h4, hf⟩ := bd_s hf
        refine z_cVi C kl_Waves_357 rfl (c_Entries_time (zxv hx 0 rfl) (Or.inr rfl) h4) (zlv (zxv hx 0 rfl) 48 rfl) rfl rfl rfl (Nat.le_of_ble_eq_true rfl) ⟨(Nat.le_of_ble_eq_true rfl), (Nat.le_of_ble_eq_true rfl)⟩ ⟨(Nat.le_of_ble_eq_true rfl), (Nat.le_of_ble_eq_true rfl)⟩ d_Waves_correctionEntryFact_45 ?_
        cases hf
        exact z_iret C rfl (Nat.le_of_ble_eq_true rfl) (Nat.le_of_ble_eq_true rfl) d_Waves_correctionEntryFact_48
      · have hf := iff_f hf h3
        by_cases h6 : a2 = (3 : Int32)
        · have hf := iff_t hf h6
          refine z_tin (off := 48) (tgt := 49) C d_Waves_correctionEntryFact_1 (by rw [h6]; decide) (by rw [h6]; decide) (by rw [h6]; rfl) rfl ?_
          refine z_iconst C d_Waves_correctionEntryFact_49 zki_m1 ?_
          cases hf
          exact z_iret C rfl (Nat.le_of_ble_eq_true rfl) (Nat.le_of_ble_eq_true rfl) d_Waves_correctionEntryFact_50
        · have hf := iff_f hf h6
          refine z_tout (tgt := 51) C d_Waves_correctionEntryFact_1 (ztab_0_3 h1 h2 h3 h6) rfl ?_
          refine z_aload_n C d_Waves_correctionEntryFact_51 0 rfl rfl ?_
          refine gf_Waves_10 C (zx4 hx 70 rfl) rfl rfl d_Waves_correctionEntryFact_52 ?_
          refine z_iload_n C d_Waves_correctionEntryFact_55 1 rfl rfl ?_
          obtain ⟨r8, h7, hf⟩ := bd_s hf
          refine z_cVi C kl_Waves_359 rfl (c_Village_sendableCorrections (zxv hx 0 rfl) h7) (zlv (zxv hx 0 rfl) 0 rfl) rfl rfl rfl (Nat.le_of_ble_eq_true rfl) ⟨(Nat.le_of_ble_eq_true rfl), (Nat.le_of_ble_eq_true rfl)⟩ ⟨(Nat.le_of_ble_eq_true rfl), (Nat.le_of_ble_eq_true rfl)⟩ d_Waves_correctionEntryFact_56 ?_
          refine z_iload_n C d_Waves_correctionEntryFact_59 2 rfl rfl ?_
          obtain ⟨r10, h9, hf⟩ := bd_s hf
          refine z_cSi C kl_Waves_289 (c_Waves_contains h9) rfl rfl (Nat.le_of_ble_eq_true rfl) ⟨(Nat.le_of_ble_eq_true rfl), (Nat.le_of_ble_eq_true rfl)⟩ ⟨(Nat.le_of_ble_eq_true rfl), (Nat.le_of_ble_eq_true rfl)⟩ d_Waves_correctionEntryFact_60 ?_
          refine z_if_eq (tgt := 70) C d_Waves_correctionEntryFact_63 rfl (fun h11 => ?_) (fun h11 => ?_)
          · have hf := iff_t hf h11
            refine z_iconst C d_Waves_correctionEntryFact_70 zki_0 ?_
            cases hf
            exact z_iret C rfl (Nat.le_of_ble_eq_true rfl) (Nat.le_of_ble_eq_true rfl) d_Waves_correctionEntryFact_71
          · have hf := iff_f hf h11
            refine z_iconst C d_Waves_correctionEntryFact_66 zki_1 ?_
            refine z_goto (tgt := 71) C d_Waves_correctionEntryFact_67 rfl ?_
            cases hf
            exact z_iret C rfl (Nat.le_of_ble_eq_true rfl) (Nat.le_of_ble_eq_true rfl) d_Waves_correctionEntryFact_71
abbrev rm_Waves_newsEntryFact : Room := { frames := 2, cells := 0, slots := 0, locals := 43 }
theorem d_Waves_newsEntryFact_0 : decode b_Waves_newsEntryFact 0 = .ok (.iload_n 3, 1) := by decide +kernel
theorem d_Waves_newsEntryFact_1 : decode b_Waves_newsEntryFact 1 = .ok (.tableswitch 64 0 3 #[31, 33, 35, 48], 31) := by decide +kernel
theorem d_Waves_newsEntryFact_32 : decode b_Waves_newsEntryFact 32 = .ok (.iconst 0, 1) := by decide +kernel
theorem d_Waves_newsEntryFact_33 : decode b_Waves_newsEntryFact 33 = .ok (.ireturn, 1) := by decide +kernel
theorem d_Waves_newsEntryFact_34 : decode b_Waves_newsEntryFact 34 = .ok (.iload_n 2, 1) := by decide +kernel
theorem d_Waves_newsEntryFact_35 : decode b_Waves_newsEntryFact 35 = .ok (.ireturn, 1) := by decide +kernel
theorem d_Waves_newsEntryFact_36 : decode b_Waves_newsEntryFact 36 = .ok (.aload_n 0, 1) := by decide +kernel
theorem d_Waves_newsEntryFact_37 : decode b_Waves_newsEntryFact 37 = .ok (.getfield 10, 3) := by decide +kernel
theorem d_Waves_newsEntryFact_40 : decode b_Waves_newsEntryFact 40 = .ok (.getfield 174, 3) := by decide +kernel
theorem d_Waves_newsEntryFact_43 : decode b_Waves_newsEntryFact 43 = .ok (.iload_n 1, 1) := by decide +kernel
theorem d_Waves_newsEntryFact_44 : decode b_Waves_newsEntryFact 44 = .ok (.iload_n 2, 1) := by decide +kernel
theorem d_Waves_newsEntryFact_45 : decode b_Waves_newsEntryFact 45 = .ok (.invokevirtual 357, 3) := by decide +kernel
theorem d_Waves_newsEntryFact_48 : decode b_Waves_newsEntryFact 48 = .ok (.ireturn, 1) := by decide +kernel
theorem d_Waves_newsEntryFact_49 : decode b_Waves_newsEntryFact 49 = .ok (.aload_n 0, 1) := by decide +kernel
theorem d_Waves_newsEntryFact_50 : decode b_Waves_newsEntryFact 50 = .ok (.getfield 10, 3) := by decide +kernel
theorem d_Waves_newsEntryFact_53 : decode b_Waves_newsEntryFact 53 = .ok (.getfield 362, 3) := by decide +kernel
theorem d_Waves_newsEntryFact_56 : decode b_Waves_newsEntryFact 56 = .ok (.iload_n 1, 1) := by decide +kernel
theorem d_Waves_newsEntryFact_57 : decode b_Waves_newsEntryFact 57 = .ok (.iload_n 2, 1) := by decide +kernel
theorem d_Waves_newsEntryFact_58 : decode b_Waves_newsEntryFact 58 = .ok (.invokestatic 274, 3) := by decide +kernel
theorem d_Waves_newsEntryFact_61 : decode b_Waves_newsEntryFact 61 = .ok (.invokevirtual 123, 3) := by decide +kernel
theorem d_Waves_newsEntryFact_64 : decode b_Waves_newsEntryFact 64 = .ok (.ireturn, 1) := by decide +kernel
theorem d_Waves_newsEntryFact_65 : decode b_Waves_newsEntryFact 65 = .ok (.iconst 1, 1) := by decide +kernel
theorem d_Waves_newsEntryFact_66 : decode b_Waves_newsEntryFact 66 = .ok (.ireturn, 1) := by decide +kernel
def F_Waves_newsEntryFact (a0 : Int32) (a1 : Int32) (a2 : Int32) (σ : zSt) : Option (Int32) :=
  if a2 = (0 : Int32) then some (0 : Int32) else (if a2 = (1 : Int32) then some a1 else (if a2 = (2 : Int32) then ((F_Entries_time 0 43 a0 a1 σ).bind fun r5 => some r5) else (if a2 = (3 : Int32) then ((F_Waves_cell a0 a1 σ).bind fun r8 => (F_Row_get 0 53 r8 σ).bind fun r10 => some r10) else some (1 : Int32))))
set_option maxHeartbeats 4000000 in
set_option maxRecDepth 100000 in
theorem c_Waves_newsEntryFact {l : Launch} {G : zLA} (hx : zxl G) {a0 : Int32} {a1 : Int32} {a2 : Int32} {σ : zSt} {r : Int32} (hf : F_Waves_newsEntryFact a0 a1 a2 σ = some r) : zM l G y_Waves_newsEntryFact (zws y_Waves_newsEntryFact b_Waves_newsEntryFact 4 (some .int)) rm_Waves_newsEntryFact [.ref (zad G 4 70), .int a0, .int a1, .int a2] σ (some (.int r)) σ := by
  refine z_ofM (own := "VillageWaves") (lv := [(0, .ref (zad G 4 70)), (1, .int a0), (2, .int a1), (3, .int a2)]) (by decide +kernel) rfl rfl (Nat.le_of_ble_eq_true rfl) (fun p e s m args below meth c C => ?_)
  rw [F_Waves_newsEntryFact] at hf
  refine z_iload_n C d_Waves_newsEntryFact_0 3 rfl rfl ?_
  by_cases h1 : a2 = (0 : Int32)
  · have hf := iff_t hf h1
    refine z_tin (off := 31) (tgt := 32) C d_Waves_newsEntryFact_1 (by rw [h1]; decide) (by rw [h1]; decide) (by rw [h1]; rfl) rfl ?_
    refine z_iconst C d_Waves_newsEntryFact_32 zki_0 ?_
    cases hf
    exact z_iret C rfl (Nat.le_of_ble_eq_true rfl) (Nat.le_of_ble_eq_true rfl) d_Waves_newsEntryFact_33
  · have hf := iff_f hf h1
    by_cases h2 : a2 = (1 : Int32)
    · have hf := iff_t hf h2
      refine z_tin (off := 33) (tgt := 34) C d_Waves_newsEntryFact_1 (by rw [h2]; decide) (by rw [h2]; decide) (by rw [h2]; rfl) rfl ?_
      refine z_iload_n C d_Waves_newsEntryFact_34 2 rfl rfl ?_
      cases hf
      exact z_iret C rfl (Nat.le_of_ble_eq_true rfl) (Nat.le_of_ble_eq_true rfl) d_Waves_newsEntryFact_35
    · have hf := iff_f hf h2
      by_cases h3 : a2 = (2 : Int32)
      · have hf := iff_t hf h3
        refine z_tin (off := 35) (tgt := 36) C d_Waves_newsEntryFact_1 (by rw [h3]; decide) (by rw [h3]; decide) (by rw [h3]; rfl) rfl ?_
        refine z_aload_n C d_Waves_newsEntryFact_36 0 rfl rfl ?_
        refine gf_Waves_10 C (zx4 hx 70 rfl) rfl rfl d_Waves_newsEntryFact_37 ?_
        refine gf_Waves_174 C (zlv (zxv hx 0 rfl) 0 rfl) rfl rfl d_Waves_newsEntryFact_40 ?_
        refine z_iload_n C d_Waves_newsEntryFact_43 1 rfl rfl ?_
        refine z_iload_n C d_Waves_newsEntryFact_44 2 rfl rfl ?_
        obtain ⟨r5, h4, hf⟩ := bd_s hf
        refine z_cVi C kl_Waves_357 rfl (c_Entries_time (zxv hx 0 rfl) (Or.inl rfl) h4) (zlv (zxv hx 0 rfl) 43 rfl) rfl rfl rfl (Nat.le_of_ble_eq_true rfl) ⟨(Nat.le_of_ble_eq_true rfl), (Nat.le_of_ble_eq_true rfl)⟩ ⟨(Nat.le_of_ble_eq_true rfl), (Nat.le_of_ble_eq_true rfl)⟩ d_Waves_newsEntryFact_45 ?_
        cases hf
        exact z_iret C rfl (Nat.le_of_ble_eq_true rfl) (Nat.le_of_ble_eq_true rfl) d_Waves_newsEntryFact_48
      · have hf := iff_f hf h3
        by_cases h6 : a2 = (3 : Int32)
        · have hf := iff_t hf h6
          refine z_tin (off := 48) (tgt := 49) C d_Waves_newsEntryFact_1 (by rw [h6]; decide) (by rw [h6]; decide) (by rw [h6]; rfl) rfl ?_
          refine z_aload_n C d_Waves_newsEntryFact_49 0 rfl rfl ?_
          refine gf_Waves_10 C (zx4 hx 70 rfl) rfl rfl d_Waves_newsEntryFact_50 ?_
          refine gf_Waves_362 C (zlv (zxv hx 0 rfl) 0 rfl) rfl rfl d_Waves_newsEntryFact_53 ?_
          refine z_iload_n C d_Waves_newsEntryFact_56 1 rfl rfl ?_
          refine z_iload_n C d_Waves_newsEntryFact_57 2 rfl rfl ?_
          obtain ⟨r8, h7, hf⟩ := bd_s hf
          refine z_cSi C kl_Waves_274 (c_Waves_cell h7) rfl rfl (Nat.le_of_ble_eq_true rfl) ⟨(Nat.le_of_ble_eq_true rfl), (Nat.le_of_ble_eq_true rfl)⟩ ⟨(Nat.le_of_ble_eq_true rfl), (Nat.le_of_ble_eq_true rfl)⟩ d_Waves_newsEntryFact_58 ?_
          obtain ⟨r10, h9, hf⟩ := bd_s hf
          refine z_cVi C kl_Waves_123 rfl (c_Row_get (zrow_v (zxv hx 0 rfl) 53 rfl) h9) (zlv (zxv hx 0 rfl) 53 rfl) rfl rfl rfl (Nat.le_of_ble_eq_true rfl) ⟨(Nat.le_of_ble_eq_true rfl), (Nat.le_of_ble_eq_true rfl)⟩ ⟨(Nat.le_of_ble_eq_true rfl), (Nat.le_of_ble_eq_true rfl)⟩ d_Waves_newsEntryFact_61 ?_
          cases hf
          exact z_iret C rfl (Nat.le_of_ble_eq_true rfl) (Nat.le_of_ble_eq_true rfl) d_Waves_newsEntryFact_64
        · have hf := iff_f hf h6
          refine z_tout (tgt := 65) C d_Waves_newsEntryFact_1 (ztab_0_3 h1 h2 h3 h6) rfl ?_
          refine z_iconst C d_Waves_newsEntryFact_65 zki_1 ?_
          cases hf
          exact z_iret C rfl (Nat.le_of_ble_eq_true rfl) (Nat.le_of_ble_eq_true rfl) d_Waves_newsEntryFact_66
abbrev rm_Waves_entry : Room := { frames := 7, cells := 3, slots := 18, locals := 114 }
theorem d_Waves_entry_0 : decode b_Waves_entry 0 = .ok (.aload_n 0, 1) := by decide +kernel
theorem d_Waves_entry_1 : decode b_Waves_entry 1 = .ok (.iload_n 1, 1) := by decide +kernel
theorem d_Waves_entry_2 : decode b_Waves_entry 2 = .ok (.invokevirtual 93, 3) := by decide +kernel
theorem d_Waves_entry_5 : decode b_Waves_entry 5 = .ok (.aload_n 0, 1) := by decide +kernel
theorem d_Waves_entry_6 : decode b_Waves_entry 6 = .ok (.getfield 10, 3) := by decide +kernel
theorem d_Waves_entry_9 : decode b_Waves_entry 9 = .ok (.getfield 182, 3) := by decide +kernel
theorem d_Waves_entry_12 : decode b_Waves_entry 12 = .ok (.iload_n 1, 1) := by decide +kernel
theorem d_Waves_entry_13 : decode b_Waves_entry 13 = .ok (.invokevirtual 216, 3) := by decide +kernel
theorem d_Waves_entry_16 : decode b_Waves_entry 16 = .ok (.istore 4, 2) := by decide +kernel
theorem d_Waves_entry_18 : decode b_Waves_entry 18 = .ok (.iload 4, 2) := by decide +kernel
theorem d_Waves_entry_20 : decode b_Waves_entry 20 = .ok (.aload_n 0, 1) := by decide +kernel
theorem d_Waves_entry_21 : decode b_Waves_entry 21 = .ok (.getfield 10, 3) := by decide +kernel
theorem d_Waves_entry_24 : decode b_Waves_entry 24 = .ok (.getfield 174, 3) := by decide +kernel
theorem d_Waves_entry_27 : decode b_Waves_entry 27 = .ok (.iload_n 1, 1) := by decide +kernel
theorem d_Waves_entry_28 : decode b_Waves_entry 28 = .ok (.invokevirtual 216, 3) := by decide +kernel
theorem d_Waves_entry_31 : decode b_Waves_entry 31 = .ok (.iadd, 1) := by decide +kernel
theorem d_Waves_entry_32 : decode b_Waves_entry 32 = .ok (.istore 5, 2) := by decide +kernel
theorem d_Waves_entry_34 : decode b_Waves_entry 34 = .ok (.iload_n 2, 1) := by decide +kernel
theorem d_Waves_entry_35 : decode b_Waves_entry 35 = .ok (.ifCond .lt 9, 3) := by decide +kernel
theorem d_Waves_entry_38 : decode b_Waves_entry 38 = .ok (.iload_n 2, 1) := by decide +kernel
theorem d_Waves_entry_39 : decode b_Waves_entry 39 = .ok (.iload 5, 2) := by decide +kernel
theorem d_Waves_entry_41 : decode b_Waves_entry 41 = .ok (.if_icmp .lt 13, 3) := by decide +kernel
theorem d_Waves_entry_44 : decode b_Waves_entry 44 = .ok (.new 222, 3) := by decide +kernel
theorem d_Waves_entry_47 : decode b_Waves_entry 47 = .ok (.dup, 1) := by decide +kernel
theorem d_Waves_entry_48 : decode b_Waves_entry 48 = .ok (.ldc 224, 2) := by decide +kernel
theorem d_Waves_entry_50 : decode b_Waves_entry 50 = .ok (.invokespecial 226, 3) := by decide +kernel
theorem d_Waves_entry_53 : decode b_Waves_entry 53 = .ok (.athrow, 1) := by decide +kernel
theorem d_Waves_entry_54 : decode b_Waves_entry 54 = .ok (.iload_n 3, 1) := by decide +kernel
theorem d_Waves_entry_55 : decode b_Waves_entry 55 = .ok (.iconst 0, 1) := by decide +kernel
theorem d_Waves_entry_56 : decode b_Waves_entry 56 = .ok (.iconst 4, 1) := by decide +kernel
theorem d_Waves_entry_57 : decode b_Waves_entry 57 = .ok (.invokestatic 56, 3) := by decide +kernel
theorem d_Waves_entry_60 : decode b_Waves_entry 60 = .ok (.iload_n 2, 1) := by decide +kernel
theorem d_Waves_entry_61 : decode b_Waves_entry 61 = .ok (.iload 4, 2) := by decide +kernel
theorem d_Waves_entry_63 : decode b_Waves_entry 63 = .ok (.if_icmp .ge 22, 3) := by decide +kernel
theorem d_Waves_entry_66 : decode b_Waves_entry 66 = .ok (.aload_n 0, 1) := by decide +kernel
theorem d_Waves_entry_67 : decode b_Waves_entry 67 = .ok (.iload_n 1, 1) := by decide +kernel
theorem d_Waves_entry_68 : decode b_Waves_entry 68 = .ok (.aload_n 0, 1) := by decide +kernel
theorem d_Waves_entry_69 : decode b_Waves_entry 69 = .ok (.getfield 10, 3) := by decide +kernel
theorem d_Waves_entry_72 : decode b_Waves_entry 72 = .ok (.getfield 182, 3) := by decide +kernel
theorem d_Waves_entry_75 : decode b_Waves_entry 75 = .ok (.iload_n 1, 1) := by decide +kernel
theorem d_Waves_entry_76 : decode b_Waves_entry 76 = .ok (.iload_n 2, 1) := by decide +kernel
theorem d_Waves_entry_77 : decode b_Waves_entry 77 = .ok (.invokevirtual 227, 3) := by decide +kernel
theorem d_Waves_entry_80 : decode b_Waves_entry 80 = .ok (.iload_n 3, 1) := by decide +kernel
theorem d_Waves_entry_81 : decode b_Waves_entry 81 = .ok (.invokevirtual 231, 3) := by decide +kernel
theorem d_Waves_entry_84 : decode b_Waves_entry 84 = .ok (.ireturn, 1) := by decide +kernel
theorem d_Waves_entry_85 : decode b_Waves_entry 85 = .ok (.aload_n 0, 1) := by decide +kernel
theorem d_Waves_entry_86 : decode b_Waves_entry 86 = .ok (.iload_n 1, 1) := by decide +kernel
theorem d_Waves_entry_87 : decode b_Waves_entry 87 = .ok (.aload_n 0, 1) := by decide +kernel
theorem d_Waves_entry_88 : decode b_Waves_entry 88 = .ok (.getfield 10, 3) := by decide +kernel
theorem d_Waves_entry_91 : decode b_Waves_entry 91 = .ok (.getfield 174, 3) := by decide +kernel
theorem d_Waves_entry_94 : decode b_Waves_entry 94 = .ok (.iload_n 1, 1) := by decide +kernel
theorem d_Waves_entry_95 : decode b_Waves_entry 95 = .ok (.iload_n 2, 1) := by decide +kernel
theorem d_Waves_entry_96 : decode b_Waves_entry 96 = .ok (.iload 4, 2) := by decide +kernel
theorem d_Waves_entry_98 : decode b_Waves_entry 98 = .ok (.isub, 1) := by decide +kernel
theorem d_Waves_entry_99 : decode b_Waves_entry 99 = .ok (.invokevirtual 227, 3) := by decide +kernel
theorem d_Waves_entry_102 : decode b_Waves_entry 102 = .ok (.iload_n 3, 1) := by decide +kernel
theorem d_Waves_entry_103 : decode b_Waves_entry 103 = .ok (.invokevirtual 235, 3) := by decide +kernel
theorem d_Waves_entry_106 : decode b_Waves_entry 106 = .ok (.ireturn, 1) := by decide +kernel
def F_Waves_entry (a0 : Int32) (a1 : Int32) (a2 : Int32) (σ : zSt) : Option ((Int32) ⊕ String) :=
  (F_Waves_checkHouse a0 σ).bind fun q2 => match q2 with | .inr E21 => some (.inr E21) | .inl _ => (F_Entries_size 0 48 a0 σ).bind fun r4 => (F_Entries_size 0 43 a0 σ).bind fun r6 => if a1 < 0 then some (.inr "java/lang/IndexOutOfBoundsException") else (if a1 < (r4 + r6) then ((F_Waves_checkWithin a2 (0 : Int32) (4 : Int32) σ).bind fun q8 => match q8 with | .inr E18 => some (.inr E18) | .inl _ => if r4 ≤ a1 then ((F_Entries_at 0 43 a0 (a1 - r4) σ).bind fun r10 => (F_Waves_newsEntryFact a0 r10 a2 σ).bind fun r12 => some (.inl r12)) else ((F_Entries_at 0 48 a0 a1 σ).bind fun r14 => (F_Waves_correctionEntryFact a0 r14 a2 σ).bind fun r16 => some (.inl r16))) else some (.inr "java/lang/IndexOutOfBoundsException"))
set_option maxHeartbeats 4000000 in
set_option maxRecDepth 100000 in
theorem c_Waves_entry {l : Launch} (hst : l.stackTraces = false) {G : zLA} (hx : zxl G) {a0 : Int32} {a1 : Int32} {a2 : Int32} {σ : zSt} {out : (Int32) ⊕ String} (hf : F_Waves_entry a0 a1 a2 σ = some out) : zX l G y_Waves_entry (zws y_Waves_entry b_Waves_entry 6 (some .int)) rm_Waves_entry [.ref (zad G 4 70), .int a0, .int a1, .int a2] σ (cv_pi out σ) := by
  refine z_ofX (own := "VillageWaves") (lv := [(0, .ref (zad G 4 70)), (1, .int a0), (2, .int a1), (3, .int a2)]) (by decide +kernel) rfl rfl (Nat.le_of_ble_eq_true rfl) (fun p e s m args below meth c C X0 => ?_)
  have X : zXx l c := ⟨hst, X0⟩
  rw [F_Waves_entry] at hf
  refine z_aload_n C d_Waves_entry_0 0 rfl rfl ?_
  refine z_iload_n C d_Waves_entry_1 1 rfl rfl ?_
  obtain ⟨q2, h1, hf⟩ := bd_s hf
  cases q2 with
  | inr E21 =>
    cases hf
    exact z_tXVv C kl_Waves_93 rfl (c_Waves_checkHouse X.1 hx h1) (zx4 hx 70 rfl) rfl rfl rfl (Nat.le_of_ble_eq_true rfl) ⟨(Nat.le_of_ble_eq_true rfl), (Nat.le_of_ble_eq_true rfl)⟩ ⟨(Nat.le_of_ble_eq_true rfl), (Nat.le_of_ble_eq_true rfl)⟩ d_Waves_entry_2 X rfl (Nat.le_of_ble_eq_true rfl) (Nat.le_of_ble_eq_true rfl)
  | inl _ =>
    refine z_cXVv C kl_Waves_93 rfl (c_Waves_checkHouse X.1 hx h1) (zx4 hx 70 rfl) rfl rfl rfl (Nat.le_of_ble_eq_true rfl) ⟨(Nat.le_of_ble_eq_true rfl), (Nat.le_of_ble_eq_true rfl)⟩ ⟨(Nat.le_of_ble_eq_true rfl), (Nat.le_of_ble_eq_true rfl)⟩ d_Waves_entry_2 ?_
    refine z_aload_n C d_Waves_entry_5 0 rfl rfl ?_
    refine gf_Waves_10 C (zx4 hx 70 rfl) rfl rfl d_Waves_entry_6 ?_
    refine gf_Waves_182 C (zlv (zxv hx 0 rfl) 0 rfl) rfl rfl d_Waves_entry_9 ?_
    refine z_iload_n C d_Waves_entry_12 1 rfl rfl ?_
    obtain ⟨r4, h3, hf⟩ := bd_s hf
    refine z_cVi C kl_Waves_216 rfl (c_Entries_size (zxv hx 0 rfl) (Or.inr rfl) h3) (zlv (zxv hx 0 rfl) 48 rfl) rfl rfl rfl (Nat.le_of_ble_eq_true rfl) ⟨(Nat.le_of_ble_eq_true rfl), (Nat.le_of_ble_eq_true rfl)⟩ ⟨(Nat.le_of_ble_eq_true rfl), (Nat.le_of_ble_eq_true rfl)⟩ d_Waves_entry_13 ?_
    refine z_istore C d_Waves_entry_16 (by decide) ?_
    refine z_iload C d_Waves_entry_18 0 rfl ?_
    refine z_aload_n C d_Waves_entry_20 1 rfl rfl ?_
    refine gf_Waves_10 C (zx4 hx 70 rfl) rfl rfl d_Waves_entry_21 ?_
    refine gf_Waves_174 C (zlv (zxv hx 0 rfl) 0 rfl) rfl rfl d_Waves_entry_24 ?_
    refine z_iload_n C d_Waves_entry_27 2 rfl rfl ?_
    obtain ⟨r6, h5, hf⟩ := bd_s hf
    refine z_cVi C kl_Waves_216 rfl (c_Entries_size (zxv hx 0 rfl) (Or.inl rfl) h5) (zlv (zxv hx 0 rfl) 43 rfl) rfl rfl rfl (Nat.le_of_ble_eq_true rfl) ⟨(Nat.le_of_ble_eq_true rfl), (Nat.le_of_ble_eq_true rfl)⟩ ⟨(Nat.le_of_ble_eq_true rfl), (Nat.le_of_ble_eq_true rfl)⟩ d_Waves_entry_28 ?_
    refine z_iadd C d_Waves_entry_31 ?_
    refine z_istore C d_Waves_entry_32 (by decide) ?_
    refine z_iload_n C d_Waves_entry_34 4 rfl rfl ?_
    refine z_if_lt (tgt := 44) C d_Waves_entry_35 rfl (fun h20 => ?_) (fun h20 => ?_)
    · have hf := iff_t hf h20
      cases hf
      exact zth_226_224 C X rfl d_Waves_entry_44 d_Waves_entry_47 d_Waves_entry_48 d_Waves_entry_50 d_Waves_entry_53 (Nat.le_of_ble_eq_true rfl) (Nat.le_of_ble_eq_true rfl) (Nat.le_of_ble_eq_true rfl) (Nat.le_of_ble_eq_true rfl) (Nat.le_of_ble_eq_true rfl) (Nat.le_of_ble_eq_true rfl)
    · have hf := iff_f hf h20
      refine z_iload_n C d_Waves_entry_38 4 rfl rfl ?_
      refine z_iload C d_Waves_entry_39 0 rfl ?_
      refine z_icmp_lt (tgt := 54) C d_Waves_entry_41 rfl (fun h19 => ?_) (fun h19 => ?_)
      · have hf := iff_t hf h19
        refine z_iload_n C d_Waves_entry_54 5 rfl rfl ?_
        refine z_iconst C d_Waves_entry_55 zki_0 ?_
        refine z_iconst C d_Waves_entry_56 zki_4 ?_
        obtain ⟨q8, h7, hf⟩ := bd_s hf
        cases q8 with
        | inr E18 =>
          cases hf
          exact z_tXSv C kl_Waves_56 (c_Waves_checkWithin X.1 h7) rfl rfl (Nat.le_of_ble_eq_true rfl) ⟨(Nat.le_of_ble_eq_true rfl), (Nat.le_of_ble_eq_true rfl)⟩ ⟨(Nat.le_of_ble_eq_true rfl), (Nat.le_of_ble_eq_true rfl)⟩ d_Waves_entry_57 X rfl (Nat.le_of_ble_eq_true rfl) (Nat.le_of_ble_eq_true rfl)
        | inl _ =>
          refine z_cXSv C kl_Waves_56 (c_Waves_checkWithin X.1 h7) rfl rfl (Nat.le_of_ble_eq_true rfl) ⟨(Nat.le_of_ble_eq_true rfl), (Nat.le_of_ble_eq_true rfl)⟩ ⟨(Nat.le_of_ble_eq_true rfl), (Nat.le_of_ble_eq_true rfl)⟩ d_Waves_entry_57 ?_
          refine z_iload_n C d_Waves_entry_60 4 rfl rfl ?_
          refine z_iload C d_Waves_entry_61 1 rfl ?_
          refine z_icmp_ge (tgt := 85) C d_Waves_entry_63 rfl (fun h17 => ?_) (fun h17 => ?_)
          · have hf := iff_t hf h17
            refine z_aload_n C d_Waves_entry_85 2 rfl rfl ?_
            refine z_iload_n C d_Waves_entry_86 3 rfl rfl ?_
            refine z_aload_n C d_Waves_entry_87 2 rfl rfl ?_
            refine gf_Waves_10 C (zx4 hx 70 rfl) rfl rfl d_Waves_entry_88 ?_
            refine gf_Waves_174 C (zlv (zxv hx 0 rfl) 0 rfl) rfl rfl d_Waves_entry_91 ?_
            refine z_iload_n C d_Waves_entry_94 3 rfl rfl ?_
            refine z_iload_n C d_Waves_entry_95 4 rfl rfl ?_
            refine z_iload C d_Waves_entry_96 1 rfl ?_
            refine z_isub C d_Waves_entry_98 ?_
            obtain ⟨r10, h9, hf⟩ := bd_s hf
            refine z_cVi C kl_Waves_227 rfl (c_Entries_at (zxv hx 0 rfl) (Or.inl rfl) h9) (zlv (zxv hx 0 rfl) 43 rfl) rfl rfl rfl (Nat.le_of_ble_eq_true rfl) ⟨(Nat.le_of_ble_eq_true rfl), (Nat.le_of_ble_eq_true rfl)⟩ ⟨(Nat.le_of_ble_eq_true rfl), (Nat.le_of_ble_eq_true rfl)⟩ d_Waves_entry_99 ?_
            refine z_iload_n C d_Waves_entry_102 5 rfl rfl ?_
            obtain ⟨r12, h11, hf⟩ := bd_s hf
            refine z_cVi C kl_Waves_235 rfl (c_Waves_newsEntryFact hx h11) (zx4 hx 70 rfl) rfl rfl rfl (Nat.le_of_ble_eq_true rfl) ⟨(Nat.le_of_ble_eq_true rfl), (Nat.le_of_ble_eq_true rfl)⟩ ⟨(Nat.le_of_ble_eq_true rfl), (Nat.le_of_ble_eq_true rfl)⟩ d_Waves_entry_103 ?_
            cases hf
            refine z_xret rfl ?_
            exact z_iret C rfl (Nat.le_of_ble_eq_true rfl) (Nat.le_of_ble_eq_true rfl) d_Waves_entry_106
          · have hf := iff_f hf h17
            refine z_aload_n C d_Waves_entry_66 2 rfl rfl ?_
            refine z_iload_n C d_Waves_entry_67 3 rfl rfl ?_
            refine z_aload_n C d_Waves_entry_68 2 rfl rfl ?_
            refine gf_Waves_10 C (zx4 hx 70 rfl) rfl rfl d_Waves_entry_69 ?_
            refine gf_Waves_182 C (zlv (zxv hx 0 rfl) 0 rfl) rfl rfl d_Waves_entry_72 ?_
            refine z_iload_n C d_Waves_entry_75 3 rfl rfl ?_
            refine z_iload_n C d_Waves_entry_76 4 rfl rfl ?_
            obtain ⟨r14, h13, hf⟩ := bd_s hf
            refine z_cVi C kl_Waves_227 rfl (c_Entries_at (zxv hx 0 rfl) (Or.inr rfl) h13) (zlv (zxv hx 0 rfl) 48 rfl) rfl rfl rfl (Nat.le_of_ble_eq_true rfl) ⟨(Nat.le_of_ble_eq_true rfl), (Nat.le_of_ble_eq_true rfl)⟩ ⟨(Nat.le_of_ble_eq_true rfl), (Nat.le_of_ble_eq_true rfl)⟩ d_Waves_entry_77 ?_
            refine z_iload_n C d_Waves_entry_80 5 rfl rfl ?_
            obtain ⟨r16, h15, hf⟩ := bd_s hf
            refine z_cVi C kl_Waves_231 rfl (c_Waves_correctionEntryFact hx h15) (zx4 hx 70 rfl) rfl rfl rfl (Nat.le_of_ble_eq_true rfl) ⟨(Nat.le_of_ble_eq_true rfl), (Nat.le_of_ble_eq_true rfl)⟩ ⟨(Nat.le_of_ble_eq_true rfl), (Nat.le_of_ble_eq_true rfl)⟩ d_Waves_entry_81 ?_
            cases hf
            refine z_xret rfl ?_
            exact z_iret C rfl (Nat.le_of_ble_eq_true rfl) (Nat.le_of_ble_eq_true rfl) d_Waves_entry_84
      · have hf := iff_f hf h19
        cases hf
        exact zth_226_224 C X rfl d_Waves_entry_44 d_Waves_entry_47 d_Waves_entry_48 d_Waves_entry_50 d_Waves_entry_53 (Nat.le_of_ble_eq_true rfl) (Nat.le_of_ble_eq_true rfl) (Nat.le_of_ble_eq_true rfl) (Nat.le_of_ble_eq_true rfl) (Nat.le_of_ble_eq_true rfl) (Nat.le_of_ble_eq_true rfl)
abbrev rm_Waves_checkNews : Room := { frames := 6, cells := 1, slots := 6, locals := 92 }
theorem d_Waves_checkNews_0 : decode b_Waves_checkNews 0 = .ok (.iload_n 1, 1) := by decide +kernel
theorem d_Waves_checkNews_1 : decode b_Waves_checkNews 1 = .ok (.ifCond .lt 17, 3) := by decide +kernel
theorem d_Waves_checkNews_4 : decode b_Waves_checkNews 4 = .ok (.iload_n 1, 1) := by decide +kernel
theorem d_Waves_checkNews_5 : decode b_Waves_checkNews 5 = .ok (.aload_n 0, 1) := by decide +kernel
theorem d_Waves_checkNews_6 : decode b_Waves_checkNews 6 = .ok (.getfield 10, 3) := by decide +kernel
theorem d_Waves_checkNews_9 : decode b_Waves_checkNews 9 = .ok (.getfield 145, 3) := by decide +kernel
theorem d_Waves_checkNews_12 : decode b_Waves_checkNews 12 = .ok (.getfield 149, 3) := by decide +kernel
theorem d_Waves_checkNews_15 : decode b_Waves_checkNews 15 = .ok (.if_icmp .lt 14, 3) := by decide +kernel
theorem d_Waves_checkNews_18 : decode b_Waves_checkNews 18 = .ok (.new 222, 3) := by decide +kernel
theorem d_Waves_checkNews_21 : decode b_Waves_checkNews 21 = .ok (.dup, 1) := by decide +kernel
theorem d_Waves_checkNews_22 : decode b_Waves_checkNews 22 = .ok (.ldc_w 347, 3) := by decide +kernel
theorem d_Waves_checkNews_25 : decode b_Waves_checkNews 25 = .ok (.invokespecial 226, 3) := by decide +kernel
theorem d_Waves_checkNews_28 : decode b_Waves_checkNews 28 = .ok (.athrow, 1) := by decide +kernel
theorem d_Waves_checkNews_29 : decode b_Waves_checkNews 29 = .ok (.return_, 1) := by decide +kernel
def F_Waves_checkNews (a0 : Int32) (σ : zSt) : Option ((Unit) ⊕ String) :=
  if a0 < 0 then some (.inr "java/lang/IndexOutOfBoundsException") else (if a0 < (σ.1 0 24 0) then some (.inl ()) else some (.inr "java/lang/IndexOutOfBoundsException"))
set_option maxHeartbeats 4000000 in
set_option maxRecDepth 100000 in
theorem c_Waves_checkNews {l : Launch} (hst : l.stackTraces = false) {G : zLA} (hx : zxl G) {a0 : Int32} {σ : zSt} {out : (Unit) ⊕ String} (hf : F_Waves_checkNews a0 σ = some out) : zX l G y_Waves_checkNews (zws y_Waves_checkNews b_Waves_checkNews 2 none) rm_Waves_checkNews [.ref (zad G 4 70), .int a0] σ (cv_pu out σ) := by
  refine z_ofX (own := "VillageWaves") (lv := [(0, .ref (zad G 4 70)), (1, .int a0)]) (by decide +kernel) rfl rfl (Nat.le_of_ble_eq_true rfl) (fun p e s m args below meth c C X0 => ?_)
  have X : zXx l c := ⟨hst, X0⟩
  rw [F_Waves_checkNews] at hf
  refine z_iload_n C d_Waves_checkNews_0 1 rfl rfl ?_
  refine z_if_lt (tgt := 18) C d_Waves_checkNews_1 rfl (fun h2 => ?_) (fun h2 => ?_)
  · have hf := iff_t hf h2
    cases hf
    exact zth_226_347 C X rfl d_Waves_checkNews_18 d_Waves_checkNews_21 d_Waves_checkNews_22 d_Waves_checkNews_25 d_Waves_checkNews_28 (Nat.le_of_ble_eq_true rfl) (Nat.le_of_ble_eq_true rfl) (Nat.le_of_ble_eq_true rfl) (Nat.le_of_ble_eq_true rfl) (Nat.le_of_ble_eq_true rfl) (Nat.le_of_ble_eq_true rfl)
  · have hf := iff_f hf h2
    refine z_iload_n C d_Waves_checkNews_4 1 rfl rfl ?_
    refine z_aload_n C d_Waves_checkNews_5 0 rfl rfl ?_
    refine gf_Waves_10 C (zx4 hx 70 rfl) rfl rfl d_Waves_checkNews_6 ?_
    refine gf_Waves_145 C (zlv (zxv hx 0 rfl) 0 rfl) rfl rfl d_Waves_checkNews_9 ?_
    refine gf_Waves_149 C (zlv (zxv hx 0 rfl) 24 rfl) rfl rfl d_Waves_checkNews_12 ?_
    refine z_icmp_lt (tgt := 29) C d_Waves_checkNews_15 rfl (fun h1 => ?_) (fun h1 => ?_)
    · have hf := iff_t hf h1
      cases hf
      refine z_xret rfl ?_
      exact z_vret C rfl (Nat.le_of_ble_eq_true rfl) (Nat.le_of_ble_eq_true rfl) d_Waves_checkNews_29
    · have hf := iff_f hf h1
      cases hf
      exact zth_226_347 C X rfl d_Waves_checkNews_18 d_Waves_checkNews_21 d_Waves_checkNews_22 d_Waves_checkNews_25 d_Waves_checkNews_28 (Nat.le_of_ble_eq_true rfl) (Nat.le_of_ble_eq_true rfl) (Nat.le_of_ble_eq_true rfl) (Nat.le_of_ble_eq_true rfl) (Nat.le_of_ble_eq_true rfl) (Nat.le_of_ble_eq_true rfl)
abbrev rm_Waves_news : Room := { frames := 7, cells := 2, slots := 12, locals := 114 }
theorem d_Waves_news_0 : decode b_Waves_news 0 = .ok (.aload_n 0, 1) := by decide +kernel
theorem d_Waves_news_1 : decode b_Waves_news 1 = .ok (.iload_n 1, 1) := by decide +kernel
theorem d_Waves_news_2 : decode b_Waves_news 2 = .ok (.invokevirtual 238, 3) := by decide +kernel
theorem d_Waves_news_5 : decode b_Waves_news 5 = .ok (.iload_n 2, 1) := by decide +kernel
theorem d_Waves_news_6 : decode b_Waves_news 6 = .ok (.iconst 0, 1) := by decide +kernel
theorem d_Waves_news_7 : decode b_Waves_news 7 = .ok (.bipush 9, 2) := by decide +kernel
theorem d_Waves_news_9 : decode b_Waves_news 9 = .ok (.invokestatic 56, 3) := by decide +kernel
theorem d_Waves_news_12 : decode b_Waves_news 12 = .ok (.iload_n 2, 1) := by decide +kernel
theorem d_Waves_news_13 : decode b_Waves_news 13 = .ok (.tableswitch 183 0 8 #[51, 66, 81, 96, 111, 126, 141, 156, 171], 51) := by decide +kernel
theorem d_Waves_news_64 : decode b_Waves_news 64 = .ok (.aload_n 0, 1) := by decide +kernel
theorem d_Waves_news_65 : decode b_Waves_news 65 = .ok (.getfield 10, 3) := by decide +kernel
theorem d_Waves_news_68 : decode b_Waves_news 68 = .ok (.getfield 145, 3) := by decide +kernel
theorem d_Waves_news_71 : decode b_Waves_news 71 = .ok (.getfield 241, 3) := by decide +kernel
theorem d_Waves_news_74 : decode b_Waves_news 74 = .ok (.iload_n 1, 1) := by decide +kernel
theorem d_Waves_news_75 : decode b_Waves_news 75 = .ok (.invokevirtual 123, 3) := by decide +kernel
theorem d_Waves_news_78 : decode b_Waves_news 78 = .ok (.ireturn, 1) := by decide +kernel
theorem d_Waves_news_79 : decode b_Waves_news 79 = .ok (.aload_n 0, 1) := by decide +kernel
theorem d_Waves_news_80 : decode b_Waves_news 80 = .ok (.getfield 10, 3) := by decide +kernel
theorem d_Waves_news_83 : decode b_Waves_news 83 = .ok (.getfield 145, 3) := by decide +kernel
theorem d_Waves_news_86 : decode b_Waves_news 86 = .ok (.getfield 244, 3) := by decide +kernel
theorem d_Waves_news_89 : decode b_Waves_news 89 = .ok (.iload_n 1, 1) := by decide +kernel
theorem d_Waves_news_90 : decode b_Waves_news 90 = .ok (.invokevirtual 123, 3) := by decide +kernel
theorem d_Waves_news_93 : decode b_Waves_news 93 = .ok (.ireturn, 1) := by decide +kernel
theorem d_Waves_news_94 : decode b_Waves_news 94 = .ok (.aload_n 0, 1) := by decide +kernel
theorem d_Waves_news_95 : decode b_Waves_news 95 = .ok (.getfield 10, 3) := by decide +kernel
theorem d_Waves_news_98 : decode b_Waves_news 98 = .ok (.getfield 145, 3) := by decide +kernel
theorem d_Waves_news_101 : decode b_Waves_news 101 = .ok (.getfield 247, 3) := by decide +kernel
theorem d_Waves_news_104 : decode b_Waves_news 104 = .ok (.iload_n 1, 1) := by decide +kernel
theorem d_Waves_news_105 : decode b_Waves_news 105 = .ok (.invokevirtual 123, 3) := by decide +kernel
theorem d_Waves_news_108 : decode b_Waves_news 108 = .ok (.ireturn, 1) := by decide +kernel
theorem d_Waves_news_109 : decode b_Waves_news 109 = .ok (.aload_n 0, 1) := by decide +kernel
theorem d_Waves_news_110 : decode b_Waves_news 110 = .ok (.getfield 10, 3) := by decide +kernel
theorem d_Waves_news_113 : decode b_Waves_news 113 = .ok (.getfield 145, 3) := by decide +kernel
theorem d_Waves_news_116 : decode b_Waves_news 116 = .ok (.getfield 250, 3) := by decide +kernel
theorem d_Waves_news_119 : decode b_Waves_news 119 = .ok (.iload_n 1, 1) := by decide +kernel
theorem d_Waves_news_120 : decode b_Waves_news 120 = .ok (.invokevirtual 123, 3) := by decide +kernel
theorem d_Waves_news_123 : decode b_Waves_news 123 = .ok (.ireturn, 1) := by decide +kernel
theorem d_Waves_news_124 : decode b_Waves_news 124 = .ok (.aload_n 0, 1) := by decide +kernel
theorem d_Waves_news_125 : decode b_Waves_news 125 = .ok (.getfield 10, 3) := by decide +kernel
theorem d_Waves_news_128 : decode b_Waves_news 128 = .ok (.getfield 145, 3) := by decide +kernel
theorem d_Waves_news_131 : decode b_Waves_news 131 = .ok (.getfield 253, 3) := by decide +kernel
theorem d_Waves_news_134 : decode b_Waves_news 134 = .ok (.iload_n 1, 1) := by decide +kernel
theorem d_Waves_news_135 : decode b_Waves_news 135 = .ok (.invokevirtual 123, 3) := by decide +kernel
theorem d_Waves_news_138 : decode b_Waves_news 138 = .ok (.ireturn, 1) := by decide +kernel
theorem d_Waves_news_139 : decode b_Waves_news 139 = .ok (.aload_n 0, 1) := by decide +kernel
theorem d_Waves_news_140 : decode b_Waves_news 140 = .ok (.getfield 10, 3) := by decide +kernel
theorem d_Waves_news_143 : decode b_Waves_news 143 = .ok (.getfield 145, 3) := by decide +kernel
theorem d_Waves_news_146 : decode b_Waves_news 146 = .ok (.getfield 256, 3) := by decide +kernel
theorem d_Waves_news_149 : decode b_Waves_news 149 = .ok (.iload_n 1, 1) := by decide +kernel
theorem d_Waves_news_150 : decode b_Waves_news 150 = .ok (.invokevirtual 123, 3) := by decide +kernel
theorem d_Waves_news_153 : decode b_Waves_news 153 = .ok (.ireturn, 1) := by decide +kernel
theorem d_Waves_news_154 : decode b_Waves_news 154 = .ok (.aload_n 0, 1) := by decide +kernel
theorem d_Waves_news_155 : decode b_Waves_news 155 = .ok (.getfield 10, 3) := by decide +kernel
theorem d_Waves_news_158 : decode b_Waves_news 158 = .ok (.getfield 145, 3) := by decide +kernel
theorem d_Waves_news_161 : decode b_Waves_news 161 = .ok (.getfield 259, 3) := by decide +kernel
theorem d_Waves_news_164 : decode b_Waves_news 164 = .ok (.iload_n 1, 1) := by decide +kernel
theorem d_Waves_news_165 : decode b_Waves_news 165 = .ok (.invokevirtual 123, 3) := by decide +kernel
theorem d_Waves_news_168 : decode b_Waves_news 168 = .ok (.ireturn, 1) := by decide +kernel
theorem d_Waves_news_169 : decode b_Waves_news 169 = .ok (.aload_n 0, 1) := by decide +kernel
theorem d_Waves_news_170 : decode b_Waves_news 170 = .ok (.getfield 10, 3) := by decide +kernel
theorem d_Waves_news_173 : decode b_Waves_news 173 = .ok (.getfield 145, 3) := by decide +kernel
theorem d_Waves_news_176 : decode b_Waves_news 176 = .ok (.getfield 262, 3) := by decide +kernel
theorem d_Waves_news_179 : decode b_Waves_news 179 = .ok (.iload_n 1, 1) := by decide +kernel
theorem d_Waves_news_180 : decode b_Waves_news 180 = .ok (.invokevirtual 123, 3) := by decide +kernel
theorem d_Waves_news_183 : decode b_Waves_news 183 = .ok (.ireturn, 1) := by decide +kernel
theorem d_Waves_news_184 : decode b_Waves_news 184 = .ok (.aload_n 0, 1) := by decide +kernel
theorem d_Waves_news_185 : decode b_Waves_news 185 = .ok (.getfield 10, 3) := by decide +kernel
theorem d_Waves_news_188 : decode b_Waves_news 188 = .ok (.getfield 145, 3) := by decide +kernel
theorem d_Waves_news_191 : decode b_Waves_news 191 = .ok (.iload_n 1, 1) := by decide +kernel
theorem d_Waves_news_192 : decode b_Waves_news 192 = .ok (.invokevirtual 265, 3) := by decide +kernel
theorem d_Waves_news_195 : decode b_Waves_news 195 = .ok (.ireturn, 1) := by decide +kernel
theorem d_Waves_news_196 : decode b_Waves_news 196 = .ok (.aload_n 0, 1) := by decide +kernel
theorem d_Waves_news_197 : decode b_Waves_news 197 = .ok (.getfield 10, 3) := by decide +kernel
theorem d_Waves_news_200 : decode b_Waves_news 200 = .ok (.getfield 145, 3) := by decide +kernel
theorem d_Waves_news_203 : decode b_Waves_news 203 = .ok (.getfield 268, 3) := by decide +kernel
theorem d_Waves_news_206 : decode b_Waves_news 206 = .ok (.iload_n 1, 1) := by decide +kernel
theorem d_Waves_news_207 : decode b_Waves_news 207 = .ok (.invokevirtual 123, 3) := by decide +kernel
theorem d_Waves_news_210 : decode b_Waves_news 210 = .ok (.ireturn, 1) := by decide +kernel
def F_Waves_news (a0 : Int32) (a1 : Int32) (σ : zSt) : Option ((Int32) ⊕ String) :=
  (F_Waves_checkNews a0 σ).bind fun q2 => match q2 with | .inr E35 => some (.inr E35) | .inl _ => (F_Waves_checkWithin a1 (0 : Int32) (9 : Int32) σ).bind fun q4 => match q4 with | .inr E34 => some (.inr E34) | .inl _ => if a1 = (0 : Int32) then ((F_Row_get 0 25 a0 σ).bind fun r7 => some (.inl r7)) else (if a1 = (1 : Int32) then ((F_Row_get 0 27 a0 σ).bind fun r10 => some (.inl r10)) else (if a1 = (2 : Int32) then ((F_Row_get 0 29 a0 σ).bind fun r13 => some (.inl r13)) else (if a1 = (3 : Int32) then ((F_Row_get 0 31 a0 σ).bind fun r16 => some (.inl r16)) else (if a1 = (4 : Int32) then ((F_Row_get 0 33 a0 σ).bind fun r19 => some (.inl r19)) else (if a1 = (5 : Int32) then ((F_Row_get 0 35 a0 σ).bind fun r22 => some (.inl r22)) else (if a1 = (6 : Int32) then ((F_Row_get 0 37 a0 σ).bind fun r25 => some (.inl r25)) else (if a1 = (7 : Int32) then ((F_Row_get 0 39 a0 σ).bind fun r28 => some (.inl r28)) else (if a1 = (8 : Int32) then ((F_Tidings_uncorrectedHouses 0 a0 σ).bind fun r31 => some (.inl r31)) else ((F_Row_get 0 41 a0 σ).bind fun r33 => some (.inl r33))))))))))
set_option maxHeartbeats 4000000 in
set_option maxRecDepth 100000 in
theorem c_Waves_news {l : Launch} (hst : l.stackTraces = false) {G : zLA} (hx : zxl G) {a0 : Int32} {a1 : Int32} {σ : zSt} {out : (Int32) ⊕ String} (hf : F_Waves_news a0 a1 σ = some out) : zX l G y_Waves_news (zws y_Waves_news b_Waves_news 3 (some .int)) rm_Waves_news [.ref (zad G 4 70), .int a0, .int a1] σ (cv_pi out σ) := by
  refine z_ofX (own := "VillageWaves") (lv := [(0, .ref (zad G 4 70)), (1, .int a0), (2, .int a1)]) (by decide +kernel) rfl rfl (Nat.le_of_ble_eq_true rfl) (fun p e s m args below meth c C X0 => ?_)
  have X : zXx l c := ⟨hst, X0⟩
  rw [F_Waves_news] at hf
  refine z_aload_n C d_Waves_news_0 0 rfl rfl ?_
  refine z_iload_n C d_Waves_news_1 1 rfl rfl ?_
  obtain ⟨q2, h1, hf⟩ := bd_s hf
  cases q2 with
  | inr E35 =>
    cases hf
    exact z_tXVv C kl_Waves_238 rfl (c_Waves_checkNews X.1 hx h1) (zx4 hx 70 rfl) rfl rfl rfl (Nat.le_of_ble_eq_true rfl) ⟨(Nat.le_of_ble_eq_true rfl), (Nat.le_of_ble_eq_true rfl)⟩ ⟨(Nat.le_of_ble_eq_true rfl), (Nat.le_of_ble_eq_true rfl)⟩ d_Waves_news_2 X rfl (Nat.le_of_ble_eq_true rfl) (Nat.le_of_ble_eq_true rfl)
  | inl _ =>
    refine z_cXVv C kl_Waves_238 rfl (c_Waves_checkNews X.1 hx h1) (zx4 hx 70 rfl) rfl rfl rfl (Nat.le_of_ble_eq_true rfl) ⟨(Nat.le_of_ble_eq_true rfl), (Nat.le_of_ble_eq_true rfl)⟩ ⟨(Nat.le_of_ble_eq_true rfl), (Nat.le_of_ble_eq_true rfl)⟩ d_Waves_news_2 ?_
    refine z_iload_n C d_Waves_news_5 2 rfl rfl ?_
    refine z_iconst C d_Waves_news_6 zki_0 ?_
    refine z_bipush C d_Waves_news_7 zkb_9 ?_
    obtain ⟨q4, h3, hf⟩ := bd_s hf
    cases q4 with
    | inr E34 =>
      cases hf
      exact z_tXSv C kl_Waves_56 (c_Waves_checkWithin X.1 h3) rfl rfl (Nat.le_of_ble_eq_true rfl) ⟨(Nat.le_of_ble_eq_true rfl), (Nat.le_of_ble_eq_true rfl)⟩ ⟨(Nat.le_of_ble_eq_true rfl), (Nat.le_of_ble_eq_true rfl)⟩ d_Waves_news_9 X rfl (Nat.le_of_ble_eq_true rfl) (Nat.le_of_ble_eq_true rfl)
    | inl _ =>
      refine z_cXSv C kl_Waves_56 (c_Waves_checkWithin X.1 h3) rfl rfl (Nat.le_of_ble_eq_true rfl) ⟨(Nat.le_of_ble_eq_true rfl), (Nat.le_of_ble_eq_true rfl)⟩ ⟨(Nat.le_of_ble_eq_true rfl), (Nat.le_of_ble_eq_true rfl)⟩ d_Waves_news_9 ?_
      refine z_iload_n C d_Waves_news_12 2 rfl rfl ?_
      by_cases h5 : a1 = (0 : Int32)
      · have hf := iff_t hf h5
        refine z_tin (off := 51) (tgt := 64) C d_Waves_news_13 (by rw [h5]; decide) (by rw [h5]; decide) (by rw [h5]; rfl) rfl ?_
        refine z_aload_n C d_Waves_news_64 0 rfl rfl ?_
        refine gf_Waves_10 C (zx4 hx 70 rfl) rfl rfl d_Waves_news_65 ?_
        refine gf_Waves_145 C (zlv (zxv hx 0 rfl) 0 rfl) rfl rfl d_Waves_news_68 ?_
        refine gf_Waves_241 C (zlv (zxv hx 0 rfl) 24 rfl) rfl rfl d_Waves_news_71 ?_
        refine z_iload_n C d_Waves_news_74 1 rfl rfl ?_
        obtain ⟨r7, h6, hf⟩ := bd_s hf
        refine z_cVi C kl_Waves_123 rfl (c_Row_get (zrow_v (zxv hx 0 rfl) 25 rfl) h6) (zlv (zxv hx 0 rfl) 25 rfl) rfl rfl rfl (Nat.le_of_ble_eq_true rfl) ⟨(Nat.le_of_ble_eq_true rfl), (Nat.le_of_ble_eq_true rfl)⟩ ⟨(Nat.le_of_ble_eq_true rfl), (Nat.le_of_ble_eq_true rfl)⟩ d_Waves_news_75 ?_
        cases hf
        refine z_xret rfl ?_
        exact z_iret C rfl (Nat.le_of_ble_eq_true rfl) (Nat.le_of_ble_eq_true rfl) d_Waves_news_78
      · have hf := iff_f hf h5
        by_cases h8 : a1 = (1 : Int32)
        · have hf := iff_t hf h8
          refine z_tin (off := 66) (tgt := 79) C d_Waves_news_13 (by rw [h8]; decide) (by rw [h8]; decide) (by rw [h8]; rfl) rfl ?_
          refine z_aload_n C d_Waves_news_79 0 rfl rfl ?_
          refine gf_Waves_10 C (zx4 hx 70 rfl) rfl rfl d_Waves_news_80 ?_
          refine gf_Waves_145 C (zlv (zxv hx 0 rfl) 0 rfl) rfl rfl d_Waves_news_83 ?_
          refine gf_Waves_244 C (zlv (zxv hx 0 rfl) 24 rfl) rfl rfl d_Waves_news_86 ?_
          refine z_iload_n C d_Waves_news_89 1 rfl rfl ?_
          obtain ⟨r10, h9, hf⟩ := bd_s hf
          refine z_cVi C kl_Waves_123 rfl (c_Row_get (zrow_v (zxv hx 0 rfl) 27 rfl) h9) (zlv (zxv hx 0 rfl) 27 rfl) rfl rfl rfl (Nat.le_of_ble_eq_true rfl) ⟨(Nat.le_of_ble_eq_true rfl), (Nat.le_of_ble_eq_true rfl)⟩ ⟨(Nat.le_of_ble_eq_true rfl), (Nat.le_of_ble_eq_true rfl)⟩ d_Waves_news_90 ?_
          cases hf
          refine z_xret rfl ?_
          exact z_iret C rfl (Nat.le_of_ble_eq_true rfl) (Nat.le_of_ble_eq_true rfl) d_Waves_news_93
        · have hf := iff_f hf h8
          by_cases h11 : a1 = (2 : Int32)
          · have hf := iff_t hf h11
            refine z_tin (off := 81) (tgt := 94) C d_Waves_news_13 (by rw [h11]; decide) (by rw [h11]; decide) (by rw [h11]; rfl) rfl ?_
            refine z_aload_n C d_Waves_news_94 0 rfl rfl ?_
            refine gf_Waves_10 C (zx4 hx 70 rfl) rfl rfl d_Waves_news_95 ?_
            refine gf_Waves_145 C (zlv (zxv hx 0 rfl) 0 rfl) rfl rfl d_Waves_news_98 ?_
            refine gf_Waves_247 C (zlv (zxv hx 0 rfl) 24 rfl) rfl rfl d_Waves_news_101 ?_
            refine z_iload_n C d_Waves_news_104 1 rfl rfl ?_
            obtain ⟨r13, h12, hf⟩ := bd_s hf
            refine z_cVi C kl_Waves_123 rfl (c_Row_get (zrow_v (zxv hx 0 rfl) 29 rfl) h12) (zlv (zxv hx 0 rfl) 29 rfl) rfl rfl rfl (Nat.le_of_ble_eq_true rfl) ⟨(Nat.le_of_ble_eq_true rfl), (Nat.le_of_ble_eq_true rfl)⟩ ⟨(Nat.le_of_ble_eq_true rfl), (Nat.le_of_ble_eq_true rfl)⟩ d_Waves_news_105 ?_
            cases hf
            refine z_xret rfl ?_
            exact z_iret C rfl (Nat.le_of_ble_eq_true rfl) (Nat.le_of_ble_eq_true rfl) d_Waves_news_108
          · have hf := iff_f hf h11
            by_cases h14 : a1 = (3 : Int32)
            · have hf := iff_t hf h14
              refine z_tin (off := 96) (tgt := 109) C d_Waves_news_13 (by rw [h14]; decide) (by rw [h14]; decide) (by rw [h14]; rfl) rfl ?_
              refine z_aload_n C d_Waves_news_109 0 rfl rfl ?_
              refine gf_Waves_10 C (zx4 hx 70 rfl) rfl rfl d_Waves_news_110 ?_
              refine gf_Waves_145 C (zlv (zxv hx 0 rfl) 0 rfl) rfl rfl d_Waves_news_113 ?_
              refine gf_Waves_250 C (zlv (zxv hx 0 rfl) 24 rfl) rfl rfl d_Waves_news_116 ?_
              refine z_iload_n C d_Waves_news_119 1 rfl rfl ?_
              obtain ⟨r16, h15, hf⟩ := bd_s hf
              refine z_cVi C kl_Waves_123 rfl (c_Row_get (zrow_v (zxv hx 0 rfl) 31 rfl) h15) (zlv (zxv hx 0 rfl) 31 rfl) rfl rfl rfl (Nat.le_of_ble_eq_true rfl) ⟨(Nat.le_of_ble_eq_true rfl), (Nat.le_of_ble_eq_true rfl)⟩ ⟨(Nat.le_of_ble_eq_true rfl), (Nat.le_of_ble_eq_true rfl)⟩ d_Waves_news_120 ?_
              cases hf
              refine z_xret rfl ?_
              exact z_iret C rfl (Nat.le_of_ble_eq_true rfl) (Nat.le_of_ble_eq_true rfl) d_Waves_news_123
            · have hf := iff_f hf h14
              by_cases h17 : a1 = (4 : Int32)
              · have hf := iff_t hf h17
                refine z_tin (off := 111) (tgt := 124) C d_Waves_news_13 (by rw [h17]; decide) (by rw [h17]; decide) (by rw [h17]; rfl) rfl ?_
                refine z_aload_n C d_Waves_news_124 0 rfl rfl ?_
                refine gf_Waves_10 C (zx4 hx 70 rfl) rfl rfl d_Waves_news_125 ?_
                refine gf_Waves_145 C (zlv (zxv hx 0 rfl) 0 rfl) rfl rfl d_Waves_news_128 ?_
                refine gf_Waves_253 C (zlv (zxv hx 0 rfl) 24 rfl) rfl rfl d_Waves_news_131 ?_
                refine z_iload_n C d_Waves_news_134 1 rfl rfl ?_
                obtain ⟨r19, h18, hf⟩ := bd_s hf
                refine z_cVi C kl_Waves_123 rfl (c_Row_get (zrow_v (zxv hx 0 rfl) 33 rfl) h18) (zlv (zxv hx 0 rfl) 33 rfl) rfl rfl rfl (Nat.le_of_ble_eq_true rfl) ⟨(Nat.le_of_ble_eq_true rfl), (Nat.le_of_ble_eq_true rfl)⟩ ⟨(Nat.le_of_ble_eq_true rfl), (Nat.le_of_ble_eq_true rfl)⟩ d_Waves_news_135 ?_
                cases hf
                refine z_xret rfl ?_
                exact z_iret C rfl (Nat.le_of_ble_eq_true rfl) (Nat.le_of_ble_eq_true rfl) d_Waves_news_138
              · have hf := iff_f hf h17
                by_cases h20 : a1 = (5 : Int32)
                · have hf := iff_t hf h20
                  refine z_tin (off := 126) (tgt := 139) C d_Waves_news_13 (by rw [h20]; decide) (by rw [h20]; decide) (by rw [h20]; rfl) rfl ?_
                  refine z_aload_n C d_Waves_news_139 0 rfl rfl ?_
                  refine gf_Waves_10 C (zx4 hx 70 rfl) rfl rfl d_Waves_news_140 ?_
                  refine gf_Waves_145 C (zlv (zxv hx 0 rfl) 0 rfl) rfl rfl d_Waves_news_143 ?_
                  refine gf_Waves_256 C (zlv (zxv hx 0 rfl) 24 rfl) rfl rfl d_Waves_news_146 ?_
                  refine z_iload_n C d_Waves_news_149 1 rfl rfl ?_
                  obtain ⟨r22, h21, hf⟩ := bd_s hf
                  refine z_cVi C kl_Waves_123 rfl (c_Row_get (zrow_v (zxv hx 0 rfl) 35 rfl) h21) (zlv (zxv hx 0 rfl) 35 rfl) rfl rfl rfl (Nat.le_of_ble_eq_true rfl) ⟨(Nat.le_of_ble_eq_true rfl), (Nat.le_of_ble_eq_true rfl)⟩ ⟨(Nat.le_of_ble_eq_true rfl), (Nat.le_of_ble_eq_true rfl)⟩ d_Waves_news_150 ?_
                  cases hf
                  refine z_xret rfl ?_
                  exact z_iret C rfl (Nat.le_of_ble_eq_true rfl) (Nat.le_of_ble_eq_true rfl) d_Waves_news_153
                · have hf := iff_f hf h20
                  by_cases h23 : a1 = (6 : Int32)
                  · have hf := iff_t hf h23
                    refine z_tin (off := 141) (tgt := 154) C d_Waves_news_13 (by rw [h23]; decide) (by rw [h23]; decide) (by rw [h23]; rfl) rfl ?_
                    refine z_aload_n C d_Waves_news_154 0 rfl rfl ?_
                    refine gf_Waves_10 C (zx4 hx 70 rfl) rfl rfl d_Waves_news_155 ?_
                    refine gf_Waves_145 C (zlv (zxv hx 0 rfl) 0 rfl) rfl rfl d_Waves_news_158 ?_
                    refine gf_Waves_259 C (zlv (zxv hx 0 rfl) 24 rfl) rfl rfl d_Waves_news_161 ?_
                    refine z_iload_n C d_Waves_news_164 1 rfl rfl ?_
                    obtain ⟨r25, h24, hf⟩ := bd_s hf
                    refine z_cVi C kl_Waves_123 rfl (c_Row_get (zrow_v (zxv hx 0 rfl) 37 rfl) h24) (zlv (zxv hx 0 rfl) 37 rfl) rfl rfl rfl (Nat.le_of_ble_eq_true rfl) ⟨(Nat.le_of_ble_eq_true rfl), (Nat.le_of_ble_eq_true rfl)⟩ ⟨(Nat.le_of_ble_eq_true rfl), (Nat.le_of_ble_eq_true rfl)⟩ d_Waves_news_165 ?_
                    cases hf
                    refine z_xret rfl ?_
                    exact z_iret C rfl (Nat.le_of_ble_eq_true rfl) (Nat.le_of_ble_eq_true rfl) d_Waves_news_168
                  · have hf := iff_f hf h23
                    by_cases h26 : a1 = (7 : Int32)
                    · have hf := iff_t hf h26
                      refine z_tin (off := 156) (tgt := 169) C d_Waves_news_13 (by rw [h26]; decide) (by rw [h26]; decide) (by rw [h26]; rfl) rfl ?_
                      refine z_aload_n C d_Waves_news_169 0 rfl rfl ?_
                      refine gf_Waves_10 C (zx4 hx 70 rfl) rfl rfl d_Waves_news_170 ?_
                      refine gf_Waves_145 C (zlv (zxv hx 0 rfl) 0 rfl) rfl rfl d_Waves_news_173 ?_
                      refine gf_Waves_262 C (zlv (zxv hx 0 rfl) 24 rfl) rfl rfl d_Waves_news_176 ?_
                      refine z_iload_n C d_Waves_news_179 1 rfl rfl ?_
                      obtain ⟨r28, h27, hf⟩ := bd_s hf
                      refine z_cVi C kl_Waves_123 rfl (c_Row_get (zrow_v (zxv hx 0 rfl) 39 rfl) h27) (zlv (zxv hx 0 rfl) 39 rfl) rfl rfl rfl (Nat.le_of_ble_eq_true rfl) ⟨(Nat.le_of_ble_eq_true rfl), (Nat.le_of_ble_eq_true rfl)⟩ ⟨(Nat.le_of_ble_eq_true rfl), (Nat.le_of_ble_eq_true rfl)⟩ d_Waves_news_180 ?_
                      cases hf
                      refine z_xret rfl ?_
                      exact z_iret C rfl (Nat.le_of_ble_eq_true rfl) (Nat.le_of_ble_eq_true rfl) d_Waves_news_183
                    · have hf := iff_f hf h26
                      by_cases h29 : a1 = (8 : Int32)
                      · have hf := iff_t hf h29
                        refine z_tin (off := 171) (tgt := 184) C d_Waves_news_13 (by rw [h29]; decide) (by rw [h29]; decide) (by rw [h29]; rfl) rfl ?_
                        refine z_aload_n C d_Waves_news_184 0 rfl rfl ?_
                        refine gf_Waves_10 C (zx4 hx 70 rfl) rfl rfl d_Waves_news_185 ?_
                        refine gf_Waves_145 C (zlv (zxv hx 0 rfl) 0 rfl) rfl rfl d_Waves_news_188 ?_
                        refine z_iload_n C d_Waves_news_191 1 rfl rfl ?_
                        obtain ⟨r31, h30, hf⟩ := bd_s hf
                        refine z_cVi C kl_Waves_265 rfl (c_Tidings_uncorrectedHouses (zxv hx 0 rfl) h30) (zlv (zxv hx 0 rfl) 24 rfl) rfl rfl rfl (Nat.le_of_ble_eq_true rfl) ⟨(Nat.le_of_ble_eq_true rfl), (Nat.le_of_ble_eq_true rfl)⟩ ⟨(Nat.le_of_ble_eq_true rfl), (Nat.le_of_ble_eq_true rfl)⟩ d_Waves_news_192 ?_
                        cases hf
                        refine z_xret rfl ?_
                        exact z_iret C rfl (Nat.le_of_ble_eq_true rfl) (Nat.le_of_ble_eq_true rfl) d_Waves_news_195
                      · have hf := iff_f hf h29
                        refine z_tout (tgt := 196) C d_Waves_news_13 (ztab_0_8 h5 h8 h11 h14 h17 h20 h23 h26 h29) rfl ?_
                        refine z_aload_n C d_Waves_news_196 0 rfl rfl ?_
                        refine gf_Waves_10 C (zx4 hx 70 rfl) rfl rfl d_Waves_news_197 ?_
                        refine gf_Waves_145 C (zlv (zxv hx 0 rfl) 0 rfl) rfl rfl d_Waves_news_200 ?_
                        refine gf_Waves_268 C (zlv (zxv hx 0 rfl) 24 rfl) rfl rfl d_Waves_news_203 ?_
                        refine z_iload_n C d_Waves_news_206 1 rfl rfl ?_
                        obtain ⟨r33, h32, hf⟩ := bd_s hf
                        refine z_cVi C kl_Waves_123 rfl (c_Row_get (zrow_v (zxv hx 0 rfl) 41 rfl) h32) (zlv (zxv hx 0 rfl) 41 rfl) rfl rfl rfl (Nat.le_of_ble_eq_true rfl) ⟨(Nat.le_of_ble_eq_true rfl), (Nat.le_of_ble_eq_true rfl)⟩ ⟨(Nat.le_of_ble_eq_true rfl), (Nat.le_of_ble_eq_true rfl)⟩ d_Waves_news_207 ?_
                        cases hf
                        refine z_xret rfl ?_
                        exact z_iret C rfl (Nat.le_of_ble_eq_true rfl) (Nat.le_of_ble_eq_true rfl) d_Waves_news_210
abbrev rm_Waves_source : Room := { frames := 7, cells := 2, slots := 12, locals := 113 }
theorem d_Waves_source_0 : decode b_Waves_source 0 = .ok (.aload_n 0, 1) := by decide +kernel
theorem d_Waves_source_1 : decode b_Waves_source 1 = .ok (.iload_n 1, 1) := by decide +kernel
theorem d_Waves_source_2 : decode b_Waves_source 2 = .ok (.invokevirtual 93, 3) := by decide +kernel
theorem d_Waves_source_5 : decode b_Waves_source 5 = .ok (.aload_n 0, 1) := by decide +kernel
theorem d_Waves_source_6 : decode b_Waves_source 6 = .ok (.iload_n 2, 1) := by decide +kernel
theorem d_Waves_source_7 : decode b_Waves_source 7 = .ok (.invokevirtual 238, 3) := by decide +kernel
theorem d_Waves_source_10 : decode b_Waves_source 10 = .ok (.aload_n 0, 1) := by decide +kernel
theorem d_Waves_source_11 : decode b_Waves_source 11 = .ok (.getfield 10, 3) := by decide +kernel
theorem d_Waves_source_14 : decode b_Waves_source 14 = .ok (.getfield 271, 3) := by decide +kernel
theorem d_Waves_source_17 : decode b_Waves_source 17 = .ok (.iload_n 1, 1) := by decide +kernel
theorem d_Waves_source_18 : decode b_Waves_source 18 = .ok (.iload_n 2, 1) := by decide +kernel
theorem d_Waves_source_19 : decode b_Waves_source 19 = .ok (.invokestatic 274, 3) := by decide +kernel
theorem d_Waves_source_22 : decode b_Waves_source 22 = .ok (.invokevirtual 123, 3) := by decide +kernel
theorem d_Waves_source_25 : decode b_Waves_source 25 = .ok (.ireturn, 1) := by decide +kernel
def F_Waves_source (a0 : Int32) (a1 : Int32) (σ : zSt) : Option ((Int32) ⊕ String) :=
  (F_Waves_checkHouse a0 σ).bind fun q2 => match q2 with | .inr E10 => some (.inr E10) | .inl _ => (F_Waves_checkNews a1 σ).bind fun q4 => match q4 with | .inr E9 => some (.inr E9) | .inl _ => (F_Waves_cell a0 a1 σ).bind fun r6 => (F_Row_get 0 55 r6 σ).bind fun r8 => some (.inl r8)
set_option maxHeartbeats 4000000 in
set_option maxRecDepth 100000 in
theorem c_Waves_source {l : Launch} (hst : l.stackTraces = false) {G : zLA} (hx : zxl G) {a0 : Int32} {a1 : Int32} {σ : zSt} {out : (Int32) ⊕ String} (hf : F_Waves_source a0 a1 σ = some out) : zX l G y_Waves_source (zws y_Waves_source b_Waves_source 3 (some .int)) rm_Waves_source [.ref (zad G 4 70), .int a0, .int a1] σ (cv_pi out σ) := by
  refine z_ofX (own := "VillageWaves") (lv := [(0, .ref (zad G 4 70)), (1, .int a0), (2, .int a1)]) (by decide +kernel) rfl rfl (Nat.le_of_ble_eq_true rfl) (fun p e s m args below meth c C X0 => ?_)
  have X : zXx l c := ⟨hst, X0⟩
  rw [F_Waves_source] at hf
  refine z_aload_n C d_Waves_source_0 0 rfl rfl ?_
  refine z_iload_n C d_Waves_source_1 1 rfl rfl ?_
  obtain ⟨q2, h1, hf⟩ := bd_s hf
  cases q2 with
  | inr E10 =>
    cases hf
    exact z_tXVv C kl_Waves_93 rfl (c_Waves_checkHouse X.1 hx h1) (zx4 hx 70 rfl) rfl rfl rfl (Nat.le_of_ble_eq_true rfl) ⟨(Nat.le_of_ble_eq_true rfl), (Nat.le_of_ble_eq_true rfl)⟩ ⟨(Nat.le_of_ble_eq_true rfl), (Nat.le_of_ble_eq_true rfl)⟩ d_Waves_source_2 X rfl (Nat.le_of_ble_eq_true rfl) (Nat.le_of_ble_eq_true rfl)
  | inl _ =>
    refine z_cXVv C kl_Waves_93 rfl (c_Waves_checkHouse X.1 hx h1) (zx4 hx 70 rfl) rfl rfl rfl (Nat.le_of_ble_eq_true rfl) ⟨(Nat.le_of_ble_eq_true rfl), (Nat.le_of_ble_eq_true rfl)⟩ ⟨(Nat.le_of_ble_eq_true rfl), (Nat.le_of_ble_eq_true rfl)⟩ d_Waves_source_2 ?_
    refine z_aload_n C d_Waves_source_5 0 rfl rfl ?_
    refine z_iload_n C d_Waves_source_6 2 rfl rfl ?_
    obtain ⟨q4, h3, hf⟩ := bd_s hf
    cases q4 with
    | inr E9 =>
      cases hf
      exact z_tXVv C kl_Waves_238 rfl (c_Waves_checkNews X.1 hx h3) (zx4 hx 70 rfl) rfl rfl rfl (Nat.le_of_ble_eq_true rfl) ⟨(Nat.le_of_ble_eq_true rfl), (Nat.le_of_ble_eq_true rfl)⟩ ⟨(Nat.le_of_ble_eq_true rfl), (Nat.le_of_ble_eq_true rfl)⟩ d_Waves_source_7 X rfl (Nat.le_of_ble_eq_true rfl) (Nat.le_of_ble_eq_true rfl)
    | inl _ =>
      refine z_cXVv C kl_Waves_238 rfl (c_Waves_checkNews X.1 hx h3) (zx4 hx 70 rfl) rfl rfl rfl (Nat.le_of_ble_eq_true rfl) ⟨(Nat.le_of_ble_eq_true rfl), (Nat.le_of_ble_eq_true rfl)⟩ ⟨(Nat.le_of_ble_eq_true rfl), (Nat.le_of_ble_eq_true rfl)⟩ d_Waves_source_7 ?_
      refine z_aload_n C d_Waves_source_10 0 rfl rfl ?_
      refine gf_Waves_10 C (zx4 hx 70 rfl) rfl rfl d_Waves_source_11 ?_
      refine gf_Waves_271 C (zlv (zxv hx 0 rfl) 0 rfl) rfl rfl d_Waves_source_14 ?_
      refine z_iload_n C d_Waves_source_17 1 rfl rfl ?_
      refine z_iload_n C d_Waves_source_18 2 rfl rfl ?_
      obtain ⟨r6, h5, hf⟩ := bd_s hf
      refine z_cSi C kl_Waves_274 (c_Waves_cell h5) rfl rfl (Nat.le_of_ble_eq_true rfl) ⟨(Nat.le_of_ble_eq_true rfl), (Nat.le_of_ble_eq_true rfl)⟩ ⟨(Nat.le_of_ble_eq_true rfl), (Nat.le_of_ble_eq_true rfl)⟩ d_Waves_source_19 ?_
      obtain ⟨r8, h7, hf⟩ := bd_s hf
      refine z_cVi C kl_Waves_123 rfl (c_Row_get (zrow_v (zxv hx 0 rfl) 55 rfl) h7) (zlv (zxv hx 0 rfl) 55 rfl) rfl rfl rfl (Nat.le_of_ble_eq_true rfl) ⟨(Nat.le_of_ble_eq_true rfl), (Nat.le_of_ble_eq_true rfl)⟩ ⟨(Nat.le_of_ble_eq_true rfl), (Nat.le_of_ble_eq_true rfl)⟩ d_Waves_source_22 ?_
      cases hf
      refine z_xret rfl ?_
      exact z_iret C rfl (Nat.le_of_ble_eq_true rfl) (Nat.le_of_ble_eq_true rfl) d_Waves_source_25
abbrev rm_Waves_owes : Room := { frames := 7, cells := 2, slots := 12, locals := 113 }
theorem d_Waves_owes_0 : decode b_Waves_owes 0 = .ok (.aload_n 0, 1) := by decide +kernel
theorem d_Waves_owes_1 : decode b_Waves_owes 1 = .ok (.iload_n 1, 1) := by decide +kernel
theorem d_Waves_owes_2 : decode b_Waves_owes 2 = .ok (.invokevirtual 93, 3) := by decide +kernel
theorem d_Waves_owes_5 : decode b_Waves_owes 5 = .ok (.aload_n 0, 1) := by decide +kernel
theorem d_Waves_owes_6 : decode b_Waves_owes 6 = .ok (.iload_n 2, 1) := by decide +kernel
theorem d_Waves_owes_7 : decode b_Waves_owes 7 = .ok (.invokevirtual 238, 3) := by decide +kernel
theorem d_Waves_owes_10 : decode b_Waves_owes 10 = .ok (.aload_n 0, 1) := by decide +kernel
theorem d_Waves_owes_11 : decode b_Waves_owes 11 = .ok (.getfield 10, 3) := by decide +kernel
theorem d_Waves_owes_14 : decode b_Waves_owes 14 = .ok (.iload_n 1, 1) := by decide +kernel
theorem d_Waves_owes_15 : decode b_Waves_owes 15 = .ok (.iload_n 2, 1) := by decide +kernel
theorem d_Waves_owes_16 : decode b_Waves_owes 16 = .ok (.invokevirtual 277, 3) := by decide +kernel
theorem d_Waves_owes_19 : decode b_Waves_owes 19 = .ok (.ireturn, 1) := by decide +kernel
def F_Waves_owes (a0 : Int32) (a1 : Int32) (σ : zSt) : Option ((Int32) ⊕ String) :=
  (F_Waves_checkHouse a0 σ).bind fun q2 => match q2 with | .inr E8 => some (.inr E8) | .inl _ => (F_Waves_checkNews a1 σ).bind fun q4 => match q4 with | .inr E7 => some (.inr E7) | .inl _ => (F_Village_owedBy 0 a0 a1 σ).bind fun r6 => some (.inl r6)
set_option maxHeartbeats 4000000 in
set_option maxRecDepth 100000 in
theorem c_Waves_owes {l : Launch} (hst : l.stackTraces = false) {G : zLA} (hx : zxl G) {a0 : Int32} {a1 : Int32} {σ : zSt} {out : (Int32) ⊕ String} (hf : F_Waves_owes a0 a1 σ = some out) : zX l G y_Waves_owes (zws y_Waves_owes b_Waves_owes 3 (some .int)) rm_Waves_owes [.ref (zad G 4 70), .int a0, .int a1] σ (cv_pi out σ) := by
  refine z_ofX (own := "VillageWaves") (lv := [(0, .ref (zad G 4 70)), (1, .int a0), (2, .int a1)]) (by decide +kernel) rfl rfl (Nat.le_of_ble_eq_true rfl) (fun p e s m args below meth c C X0 => ?_)
  have X : zXx l c := ⟨hst, X0⟩
  rw [F_Waves_owes] at hf
  refine z_aload_n C d_Waves_owes_0 0 rfl rfl ?_
  refine z_iload_n C d_Waves_owes_1 1 rfl rfl ?_
  obtain ⟨q2, h1, hf⟩ := bd_s hf
  cases q2 with
  | inr E8 =>
    cases hf
    exact z_tXVv C kl_Waves_93 rfl (c_Waves_checkHouse X.1 hx h1) (zx4 hx 70 rfl) rfl rfl rfl (Nat.le_of_ble_eq_true rfl) ⟨(Nat.le_of_ble_eq_true rfl), (Nat.le_of_ble_eq_true rfl)⟩ ⟨(Nat.le_of_ble_eq_true rfl), (Nat.le_of_ble_eq_true rfl)⟩ d_Waves_owes_2 X rfl (Nat.le_of_ble_eq_true rfl) (Nat.le_of_ble_eq_true rfl)
  | inl _ =>
    refine z_cXVv C kl_Waves_93 rfl (c_Waves_checkHouse X.1 hx h1) (zx4 hx 70 rfl) rfl rfl rfl (Nat.le_of_ble_eq_true rfl) ⟨(Nat.le_of_ble_eq_true rfl), (Nat.le_of_ble_eq_true rfl)⟩ ⟨(Nat.le_of_ble_eq_true rfl), (Nat.le_of_ble_eq_true rfl)⟩ d_Waves_owes_2 ?_
    refine z_aload_n C d_Waves_owes_5 0 rfl rfl ?_
    refine z_iload_n C d_Waves_owes_6 2 rfl rfl ?_
    obtain ⟨q4, h3, hf⟩ := bd_s hf
    cases q4 with
    | inr E7 =>
      cases hf
      exact z_tXVv C kl_Waves_238 rfl (c_Waves_checkNews X.1 hx h3) (zx4 hx 70 rfl) rfl rfl rfl (Nat.le_of_ble_eq_true rfl) ⟨(Nat.le_of_ble_eq_true rfl), (Nat.le_of_ble_eq_true rfl)⟩ ⟨(Nat.le_of_ble_eq_true rfl), (Nat.le_of_ble_eq_true rfl)⟩ d_Waves_owes_7 X rfl (Nat.le_of_ble_eq_true rfl) (Nat.le_of_ble_eq_true rfl)
    | inl _ =>
      refine z_cXVv C kl_Waves_238 rfl (c_Waves_checkNews X.1 hx h3) (zx4 hx 70 rfl) rfl rfl rfl (Nat.le_of_ble_eq_true rfl) ⟨(Nat.le_of_ble_eq_true rfl), (Nat.le_of_ble_eq_true rfl)⟩ ⟨(Nat.le_of_ble_eq_true rfl), (Nat.le_of_ble_eq_true rfl)⟩ d_Waves_owes_7 ?_
      refine z_aload_n C d_Waves_owes_10 0 rfl rfl ?_
      refine gf_Waves_10 C (zx4 hx 70 rfl) rfl rfl d_Waves_owes_11 ?_
      refine z_iload_n C d_Waves_owes_14 1 rfl rfl ?_
      refine z_iload_n C d_Waves_owes_15 2 rfl rfl ?_
      obtain ⟨r6, h5, hf⟩ := bd_s hf
      refine z_cVi C kl_Waves_277 rfl (c_Village_owedBy (zxv hx 0 rfl) h5) (zlv (zxv hx 0 rfl) 0 rfl) rfl rfl rfl (Nat.le_of_ble_eq_true rfl) ⟨(Nat.le_of_ble_eq_true rfl), (Nat.le_of_ble_eq_true rfl)⟩ ⟨(Nat.le_of_ble_eq_true rfl), (Nat.le_of_ble_eq_true rfl)⟩ d_Waves_owes_16 ?_
      cases hf
      refine z_xret rfl ?_
      exact z_iret C rfl (Nat.le_of_ble_eq_true rfl) (Nat.le_of_ble_eq_true rfl) d_Waves_owes_19
abbrev rm_Waves_spoken : Room := { frames := 7, cells := 2, slots := 12, locals := 114 }
theorem d_Waves_spoken_0 : decode b_Waves_spoken 0 = .ok (.iload_n 1, 1) := by decide +kernel
theorem d_Waves_spoken_1 : decode b_Waves_spoken 1 = .ok (.ifCond .ge 14, 3) := by decide +kernel
theorem d_Waves_spoken_4 : decode b_Waves_spoken 4 = .ok (.new 99, 3) := by decide +kernel
theorem d_Waves_spoken_7 : decode b_Waves_spoken 7 = .ok (.dup, 1) := by decide +kernel
theorem d_Waves_spoken_8 : decode b_Waves_spoken 8 = .ok (.ldc_w 280, 3) := by decide +kernel
theorem d_Waves_spoken_11 : decode b_Waves_spoken 11 = .ok (.invokespecial 103, 3) := by decide +kernel
theorem d_Waves_spoken_14 : decode b_Waves_spoken 14 = .ok (.athrow, 1) := by decide +kernel
theorem d_Waves_spoken_15 : decode b_Waves_spoken 15 = .ok (.iload_n 2, 1) := by decide +kernel
theorem d_Waves_spoken_16 : decode b_Waves_spoken 16 = .ok (.iconst 0, 1) := by decide +kernel
theorem d_Waves_spoken_17 : decode b_Waves_spoken 17 = .ok (.iconst 5, 1) := by decide +kernel
theorem d_Waves_spoken_18 : decode b_Waves_spoken 18 = .ok (.invokestatic 56, 3) := by decide +kernel
theorem d_Waves_spoken_21 : decode b_Waves_spoken 21 = .ok (.aload_n 0, 1) := by decide +kernel
theorem d_Waves_spoken_22 : decode b_Waves_spoken 22 = .ok (.getfield 10, 3) := by decide +kernel
theorem d_Waves_spoken_25 : decode b_Waves_spoken 25 = .ok (.getfield 155, 3) := by decide +kernel
theorem d_Waves_spoken_28 : decode b_Waves_spoken 28 = .ok (.iload_n 1, 1) := by decide +kernel
theorem d_Waves_spoken_29 : decode b_Waves_spoken 29 = .ok (.iload_n 2, 1) := by decide +kernel
theorem d_Waves_spoken_30 : decode b_Waves_spoken 30 = .ok (.invokevirtual 282, 3) := by decide +kernel
theorem d_Waves_spoken_33 : decode b_Waves_spoken 33 = .ok (.ireturn, 1) := by decide +kernel
def F_Waves_spoken (a0 : Int32) (a1 : Int32) (σ : zSt) : Option ((Int32) ⊕ String) :=
  if 0 ≤ a0 then ((F_Waves_checkWithin a1 (0 : Int32) (5 : Int32) σ).bind fun q2 => match q2 with | .inr E5 => some (.inr E5) | .inl _ => (F_Journal_fact 0 a0 a1 σ).bind fun r4 => some (.inl r4)) else some (.inr "java/lang/IllegalArgumentException")
set_option maxHeartbeats 4000000 in
set_option maxRecDepth 100000 in
theorem c_Waves_spoken {l : Launch} (hst : l.stackTraces = false) {G : zLA} (hx : zxl G) {a0 : Int32} {a1 : Int32} {σ : zSt} {out : (Int32) ⊕ String} (hf : F_Waves_spoken a0 a1 σ = some out) : zX l G y_Waves_spoken (zws y_Waves_spoken b_Waves_spoken 3 (some .int)) rm_Waves_spoken [.ref (zad G 4 70), .int a0, .int a1] σ (cv_pi out σ) := by
  refine z_ofX (own := "VillageWaves") (lv := [(0, .ref (zad G 4 70)), (1, .int a0), (2, .int a1)]) (by decide +kernel) rfl rfl (Nat.le_of_ble_eq_true rfl) (fun p e s m args below meth c C X0 => ?_)
  have X : zXx l c := ⟨hst, X0⟩
  rw [F_Waves_spoken] at hf
  refine z_iload_n C d_Waves_spoken_0 1 rfl rfl ?_
  refine z_if_ge (tgt := 15) C d_Waves_spoken_1 rfl (fun h6 => ?_) (fun h6 => ?_)
  · have hf := iff_t hf h6
    refine z_iload_n C d_Waves_spoken_15 2 rfl rfl ?_
    refine z_iconst C d_Waves_spoken_16 zki_0 ?_
    refine z_iconst C d_Waves_spoken_17 zki_5 ?_
    obtain ⟨q2, h1, hf⟩ := bd_s hf
    cases q2 with
    | inr E5 =>
      cases hf
      exact z_tXSv C kl_Waves_56 (c_Waves_checkWithin X.1 h1) rfl rfl (Nat.le_of_ble_eq_true rfl) ⟨(Nat.le_of_ble_eq_true rfl), (Nat.le_of_ble_eq_true rfl)⟩ ⟨(Nat.le_of_ble_eq_true rfl), (Nat.le_of_ble_eq_true rfl)⟩ d_Waves_spoken_18 X rfl (Nat.le_of_ble_eq_true rfl) (Nat.le_of_ble_eq_true rfl)
    | inl _ =>
      refine z_cXSv C kl_Waves_56 (c_Waves_checkWithin X.1 h1) rfl rfl (Nat.le_of_ble_eq_true rfl) ⟨(Nat.le_of_ble_eq_true rfl), (Nat.le_of_ble_eq_true rfl)⟩ ⟨(Nat.le_of_ble_eq_true rfl), (Nat.le_of_ble_eq_true rfl)⟩ d_Waves_spoken_18 ?_
      refine z_aload_n C d_Waves_spoken_21 0 rfl rfl ?_
      refine gf_Waves_10 C (zx4 hx 70 rfl) rfl rfl d_Waves_spoken_22 ?_
      refine gf_Waves_155 C (zlv (zxv hx 0 rfl) 0 rfl) rfl rfl d_Waves_spoken_25 ?_
      refine z_iload_n C d_Waves_spoken_28 1 rfl rfl ?_
      refine z_iload_n C d_Waves_spoken_29 2 rfl rfl ?_
      obtain ⟨r4, h3, hf⟩ := bd_s hf
      refine z_cVi C kl_Waves_282 rfl (c_Journal_fact (zxv hx 0 rfl) h3) (zlv (zxv hx 0 rfl) 59 rfl) rfl rfl rfl (Nat.le_of_ble_eq_true rfl) ⟨(Nat.le_of_ble_eq_true rfl), (Nat.le_of_ble_eq_true rfl)⟩ ⟨(Nat.le_of_ble_eq_true rfl), (Nat.le_of_ble_eq_true rfl)⟩ d_Waves_spoken_30 ?_
      cases hf
      refine z_xret rfl ?_
      exact z_iret C rfl (Nat.le_of_ble_eq_true rfl) (Nat.le_of_ble_eq_true rfl) d_Waves_spoken_33
  · have hf := iff_f hf h6
    cases hf
    exact zth_103_280 C X rfl d_Waves_spoken_4 d_Waves_spoken_7 d_Waves_spoken_8 d_Waves_spoken_11 d_Waves_spoken_14 (Nat.le_of_ble_eq_true rfl) (Nat.le_of_ble_eq_true rfl) (Nat.le_of_ble_eq_true rfl) (Nat.le_of_ble_eq_true rfl) (Nat.le_of_ble_eq_true rfl) (Nat.le_of_ble_eq_true rfl)
abbrev rm_Waves_tell : Room := { frames := 7, cells := 2, slots := 12, locals := 114 }
theorem d_Waves_tell_0 : decode b_Waves_tell 0 = .ok (.aload_n 0, 1) := by decide +kernel
theorem d_Waves_tell_1 : decode b_Waves_tell 1 = .ok (.iload_n 1, 1) := by decide +kernel
theorem d_Waves_tell_2 : decode b_Waves_tell 2 = .ok (.invokevirtual 93, 3) := by decide +kernel
theorem d_Waves_tell_5 : decode b_Waves_tell 5 = .ok (.iload_n 2, 1) := by decide +kernel
theorem d_Waves_tell_6 : decode b_Waves_tell 6 = .ok (.iconst 0, 1) := by decide +kernel
theorem d_Waves_tell_7 : decode b_Waves_tell 7 = .ok (.bipush 99, 2) := by decide +kernel
theorem d_Waves_tell_9 : decode b_Waves_tell 9 = .ok (.invokestatic 56, 3) := by decide +kernel
theorem d_Waves_tell_12 : decode b_Waves_tell 12 = .ok (.aload_n 0, 1) := by decide +kernel
theorem d_Waves_tell_13 : decode b_Waves_tell 13 = .ok (.getfield 10, 3) := by decide +kernel
theorem d_Waves_tell_16 : decode b_Waves_tell 16 = .ok (.getfield 145, 3) := by decide +kernel
theorem d_Waves_tell_19 : decode b_Waves_tell 19 = .ok (.invokevirtual 285, 3) := by decide +kernel
theorem d_Waves_tell_22 : decode b_Waves_tell 22 = .ok (.ifCond .eq 6, 3) := by decide +kernel
theorem d_Waves_tell_25 : decode b_Waves_tell 25 = .ok (.bipush (-2), 2) := by decide +kernel
theorem d_Waves_tell_27 : decode b_Waves_tell 27 = .ok (.ireturn, 1) := by decide +kernel
theorem d_Waves_tell_28 : decode b_Waves_tell 28 = .ok (.aload_n 0, 1) := by decide +kernel
theorem d_Waves_tell_29 : decode b_Waves_tell 29 = .ok (.getfield 10, 3) := by decide +kernel
theorem d_Waves_tell_32 : decode b_Waves_tell 32 = .ok (.iload_n 1, 1) := by decide +kernel
theorem d_Waves_tell_33 : decode b_Waves_tell 33 = .ok (.iload_n 2, 1) := by decide +kernel
theorem d_Waves_tell_34 : decode b_Waves_tell 34 = .ok (.invokevirtual 286, 3) := by decide +kernel
theorem d_Waves_tell_37 : decode b_Waves_tell 37 = .ok (.ireturn, 1) := by decide +kernel
def F_Waves_tell (a0 : Int32) (a1 : Int32) (σ : zSt) : Option ((Int32 × zSt) ⊕ String) :=
  (F_Waves_checkHouse a0 σ).bind fun q2 => match q2 with | .inr E12 => some (.inr E12) | .inl _ => (F_Waves_checkWithin a1 (0 : Int32) (99 : Int32) σ).bind fun q4 => match q4 with | .inr E11 => some (.inr E11) | .inl _ => (F_Tidings_isFull 0 σ).bind fun r6 => if r6 = 0 then (bd2 (F_Village_addNews 0 a0 a1 σ) fun r8 σ9 => some (.inl (r8, σ9))) else some (.inl ((-2 : Int32), σ))
set_option maxHeartbeats 4000000 in
set_option maxRecDepth 100000 in
theorem c_Waves_tell {l : Launch} (hst : l.stackTraces = false) {G : zLA} (hx : zxl G) {a0 : Int32} {a1 : Int32} {σ : zSt} {out : (Int32 × zSt) ⊕ String} (hf : F_Waves_tell a0 a1 σ = some out) : zX l G y_Waves_tell (zws y_Waves_tell b_Waves_tell 3 (some .int)) rm_Waves_tell [.ref (zad G 4 70), .int a0, .int a1] σ (cv_wi out σ) := by
  refine z_ofX (own := "VillageWaves") (lv := [(0, .ref (zad G 4 70)), (1, .int a0), (2, .int a1)]) (by decide +kernel) rfl rfl (Nat.le_of_ble_eq_true rfl) (fun p e s m args below meth c C X0 => ?_)
  have X : zXx l c := ⟨hst, X0⟩
  rw [F_Waves_tell] at hf
  refine z_aload_n C d_Waves_tell_0 0 rfl rfl ?_
  refine z_iload_n C d_Waves_tell_1 1 rfl rfl ?_
  obtain ⟨q2, h1, hf⟩ := bd_s hf
  cases q2 with
  | inr E12 =>
    cases hf
    exact z_tXVv C kl_Waves_93 rfl (c_Waves_checkHouse X.1 hx h1) (zx4 hx 70 rfl) rfl rfl rfl (Nat.le_of_ble_eq_true rfl) ⟨(Nat.le_of_ble_eq_true rfl), (Nat.le_of_ble_eq_true rfl)⟩ ⟨(Nat.le_of_ble_eq_true rfl), (Nat.le_of_ble_eq_true rfl)⟩ d_Waves_tell_2 X rfl (Nat.le_of_ble_eq_true rfl) (Nat.le_of_ble_eq_true rfl)
  | inl _ =>
    refine z_cXVv C kl_Waves_93 rfl (c_Waves_checkHouse X.1 hx h1) (zx4 hx 70 rfl) rfl rfl rfl (Nat.le_of_ble_eq_true rfl) ⟨(Nat.le_of_ble_eq_true rfl), (Nat.le_of_ble_eq_true rfl)⟩ ⟨(Nat.le_of_ble_eq_true rfl), (Nat.le_of_ble_eq_true rfl)⟩ d_Waves_tell_2 ?_
    refine z_iload_n C d_Waves_tell_5 2 rfl rfl ?_
    refine z_iconst C d_Waves_tell_6 zki_0 ?_
    refine z_bipush C d_Waves_tell_7 zkb_99 ?_
    obtain ⟨q4, h3, hf⟩ := bd_s hf
    cases q4 with
    | inr E11 =>
      cases hf
      exact z_tXSv C kl_Waves_56 (c_Waves_checkWithin X.1 h3) rfl rfl (Nat.le_of_ble_eq_true rfl) ⟨(Nat.le_of_ble_eq_true rfl), (Nat.le_of_ble_eq_true rfl)⟩ ⟨(Nat.le_of_ble_eq_true rfl), (Nat.le_of_ble_eq_true rfl)⟩ d_Waves_tell_9 X rfl (Nat.le_of_ble_eq_true rfl) (Nat.le_of_ble_eq_true rfl)
    | inl _ =>
      refine z_cXSv C kl_Waves_56 (c_Waves_checkWithin X.1 h3) rfl rfl (Nat.le_of_ble_eq_true rfl) ⟨(Nat.le_of_ble_eq_true rfl), (Nat.le_of_ble_eq_true rfl)⟩ ⟨(Nat.le_of_ble_eq_true rfl), (Nat.le_of_ble_eq_true rfl)⟩ d_Waves_tell_9 ?_
      refine z_aload_n C d_Waves_tell_12 0 rfl rfl ?_
      refine gf_Waves_10 C (zx4 hx 70 rfl) rfl rfl d_Waves_tell_13 ?_
      refine gf_Waves_145 C (zlv (zxv hx 0 rfl) 0 rfl) rfl rfl d_Waves_tell_16 ?_
      obtain ⟨r6, h5, hf⟩ := bd_s hf
      refine z_cVi C kl_Waves_285 rfl (c_Tidings_isFull (zxv hx 0 rfl) h5) (zlv (zxv hx 0 rfl) 24 rfl) rfl rfl rfl (Nat.le_of_ble_eq_true rfl) ⟨(Nat.le_of_ble_eq_true rfl), (Nat.le_of_ble_eq_true rfl)⟩ ⟨(Nat.le_of_ble_eq_true rfl), (Nat.le_of_ble_eq_true rfl)⟩ d_Waves_tell_19 ?_
      refine z_if_eq (tgt := 28) C d_Waves_tell_22 rfl (fun h10 => ?_) (fun h10 => ?_)
      · have hf := iff_t hf h10
        refine z_aload_n C d_Waves_tell_28 0 rfl rfl ?_
        refine gf_Waves_10 C (zx4 hx 70 rfl) rfl rfl d_Waves_tell_29 ?_
        refine z_iload_n C d_Waves_tell_32 1 rfl rfl ?_
        refine z_iload_n C d_Waves_tell_33 2 rfl rfl ?_
        obtain ⟨r8, σ9, h7, hf⟩ := bd2_s hf
        refine z_cVi C kl_Waves_286 rfl (c_Village_addNews (zxv hx 0 rfl) h7) (zlv (zxv hx 0 rfl) 0 rfl) rfl rfl rfl (Nat.le_of_ble_eq_true rfl) ⟨(Nat.le_of_ble_eq_true rfl), (Nat.le_of_ble_eq_true rfl)⟩ ⟨(Nat.le_of_ble_eq_true rfl), (Nat.le_of_ble_eq_true rfl)⟩ d_Waves_tell_34 ?_
        cases hf
        refine z_xret rfl ?_
        exact z_iret C rfl (Nat.le_of_ble_eq_true rfl) (Nat.le_of_ble_eq_true rfl) d_Waves_tell_37
      · have hf := iff_f hf h10
        refine z_bipush C d_Waves_tell_25 zkb_m2 ?_
        cases hf
        refine z_xret rfl ?_
        exact z_iret C rfl (Nat.le_of_ble_eq_true rfl) (Nat.le_of_ble_eq_true rfl) d_Waves_tell_27
abbrev rm_Waves_correct : Room := { frames := 7, cells := 3, slots := 18, locals := 114 }
theorem d_Waves_correct_0 : decode b_Waves_correct 0 = .ok (.aload_n 0, 1) := by decide +kernel
theorem d_Waves_correct_1 : decode b_Waves_correct 1 = .ok (.iload_n 1, 1) := by decide +kernel
theorem d_Waves_correct_2 : decode b_Waves_correct 2 = .ok (.invokevirtual 93, 3) := by decide +kernel
theorem d_Waves_correct_5 : decode b_Waves_correct 5 = .ok (.aload_n 0, 1) := by decide +kernel
theorem d_Waves_correct_6 : decode b_Waves_correct 6 = .ok (.iload_n 2, 1) := by decide +kernel
theorem d_Waves_correct_7 : decode b_Waves_correct 7 = .ok (.invokevirtual 238, 3) := by decide +kernel
theorem d_Waves_correct_10 : decode b_Waves_correct 10 = .ok (.iload_n 3, 1) := by decide +kernel
theorem d_Waves_correct_11 : decode b_Waves_correct 11 = .ok (.iconst 0, 1) := by decide +kernel
theorem d_Waves_correct_12 : decode b_Waves_correct 12 = .ok (.bipush 99, 2) := by decide +kernel
theorem d_Waves_correct_14 : decode b_Waves_correct 14 = .ok (.invokestatic 56, 3) := by decide +kernel
theorem d_Waves_correct_17 : decode b_Waves_correct 17 = .ok (.aload_n 0, 1) := by decide +kernel
theorem d_Waves_correct_18 : decode b_Waves_correct 18 = .ok (.getfield 10, 3) := by decide +kernel
theorem d_Waves_correct_21 : decode b_Waves_correct 21 = .ok (.getfield 145, 3) := by decide +kernel
theorem d_Waves_correct_24 : decode b_Waves_correct 24 = .ok (.getfield 259, 3) := by decide +kernel
theorem d_Waves_correct_27 : decode b_Waves_correct 27 = .ok (.iload_n 2, 1) := by decide +kernel
theorem d_Waves_correct_28 : decode b_Waves_correct 28 = .ok (.invokevirtual 123, 3) := by decide +kernel
theorem d_Waves_correct_31 : decode b_Waves_correct 31 = .ok (.iload_n 1, 1) := by decide +kernel
theorem d_Waves_correct_32 : decode b_Waves_correct 32 = .ok (.invokestatic 289, 3) := by decide +kernel
theorem d_Waves_correct_35 : decode b_Waves_correct 35 = .ok (.ifCond .ne 6, 3) := by decide +kernel
theorem d_Waves_correct_38 : decode b_Waves_correct 38 = .ok (.bipush (-3), 2) := by decide +kernel
theorem d_Waves_correct_40 : decode b_Waves_correct 40 = .ok (.ireturn, 1) := by decide +kernel
theorem d_Waves_correct_41 : decode b_Waves_correct 41 = .ok (.aload_n 0, 1) := by decide +kernel
theorem d_Waves_correct_42 : decode b_Waves_correct 42 = .ok (.getfield 10, 3) := by decide +kernel
theorem d_Waves_correct_45 : decode b_Waves_correct 45 = .ok (.getfield 145, 3) := by decide +kernel
theorem d_Waves_correct_48 : decode b_Waves_correct 48 = .ok (.iload_n 2, 1) := by decide +kernel
theorem d_Waves_correct_49 : decode b_Waves_correct 49 = .ok (.invokevirtual 292, 3) := by decide +kernel
theorem d_Waves_correct_52 : decode b_Waves_correct 52 = .ok (.ifCond .eq 6, 3) := by decide +kernel
theorem d_Waves_correct_55 : decode b_Waves_correct 55 = .ok (.bipush (-4), 2) := by decide +kernel
theorem d_Waves_correct_57 : decode b_Waves_correct 57 = .ok (.ireturn, 1) := by decide +kernel
theorem d_Waves_correct_58 : decode b_Waves_correct 58 = .ok (.aload_n 0, 1) := by decide +kernel
theorem d_Waves_correct_59 : decode b_Waves_correct 59 = .ok (.getfield 10, 3) := by decide +kernel
theorem d_Waves_correct_62 : decode b_Waves_correct 62 = .ok (.iload_n 1, 1) := by decide +kernel
theorem d_Waves_correct_63 : decode b_Waves_correct 63 = .ok (.iload_n 2, 1) := by decide +kernel
theorem d_Waves_correct_64 : decode b_Waves_correct 64 = .ok (.iload_n 3, 1) := by decide +kernel
theorem d_Waves_correct_65 : decode b_Waves_correct 65 = .ok (.invokevirtual 296, 3) := by decide +kernel
theorem d_Waves_correct_68 : decode b_Waves_correct 68 = .ok (.aload_n 0, 1) := by decide +kernel
theorem d_Waves_correct_69 : decode b_Waves_correct 69 = .ok (.getfield 10, 3) := by decide +kernel
theorem d_Waves_correct_72 : decode b_Waves_correct 72 = .ok (.iload_n 1, 1) := by decide +kernel
theorem d_Waves_correct_73 : decode b_Waves_correct 73 = .ok (.iload_n 2, 1) := by decide +kernel
theorem d_Waves_correct_74 : decode b_Waves_correct 74 = .ok (.invokevirtual 277, 3) := by decide +kernel
theorem d_Waves_correct_77 : decode b_Waves_correct 77 = .ok (.invokestatic 299, 3) := by decide +kernel
theorem d_Waves_correct_80 : decode b_Waves_correct 80 = .ok (.ireturn, 1) := by decide +kernel
def F_Waves_correct (a0 : Int32) (a1 : Int32) (a2 : Int32) (σ : zSt) : Option ((Int32 × zSt) ⊕ String) :=
  (F_Waves_checkHouse a0 σ).bind fun q2 => match q2 with | .inr E23 => some (.inr E23) | .inl _ => (F_Waves_checkNews a1 σ).bind fun q4 => match q4 with | .inr E22 => some (.inr E22) | .inl _ => (F_Waves_checkWithin a2 (0 : Int32) (99 : Int32) σ).bind fun q6 => match q6 with | .inr E21 => some (.inr E21) | .inl _ => (F_Row_get 0 37 a1 σ).bind fun r8 => (F_Waves_contains r8 a0 σ).bind fun r10 => if r10 = 0 then some (.inl ((-3 : Int32), σ)) else ((F_Tidings_isCorrected 0 a1 σ).bind fun r12 => if r12 = 0 then ((F_Village_addCorrection 0 a0 a1 a2 σ).bind fun σ14 => (F_Village_owedBy 0 a0 a1 σ14).bind fun r16 => (F_Integer_bitCount r16).bind fun r18 => some (.inl (r18, σ14))) else some (.inl ((-4 : Int32), σ)))
set_option maxHeartbeats 4000000 in
set_option maxRecDepth 100000 in
theorem c_Waves_correct {l : Launch} (hst : l.stackTraces = false) {G : zLA} (hx : zxl G) {a0 : Int32} {a1 : Int32} {a2 : Int32} {σ : zSt} {out : (Int32 × zSt) ⊕ String} (hf : F_Waves_correct a0 a1 a2 σ = some out) : zX l G y_Waves_correct (zws y_Waves_correct b_Waves_correct 4 (some .int)) rm_Waves_correct [.ref (zad G 4 70), .int a0, .int a1, .int a2] σ (cv_wi out σ) := by
  refine z_ofX (own := "VillageWaves") (lv := [(0, .ref (zad G 4 70)), (1, .int a0), (2, .int a1), (3, .int a2)]) (by decide +kernel) rfl rfl (Nat.le_of_ble_eq_true rfl) (fun p e s m args below meth c C X0 => ?_)
  have X : zXx l c := ⟨hst, X0⟩
  rw [F_Waves_correct] at hf
  refine z_aload_n C d_Waves_correct_0 0 rfl rfl ?_
  refine z_iload_n C d_Waves_correct_1 1 rfl rfl ?_
  obtain ⟨q2, h1, hf⟩ := bd_s hf
  cases q2 with
  | inr E23 =>
    cases hf
    exact z_tXVv C kl_Waves_93 rfl (c_Waves_checkHouse X.1 hx h1) (zx4 hx 70 rfl) rfl rfl rfl (Nat.le_of_ble_eq_true rfl) ⟨(Nat.le_of_ble_eq_true rfl), (Nat.le_of_ble_eq_true rfl)⟩ ⟨(Nat.le_of_ble_eq_true rfl), (Nat.le_of_ble_eq_true rfl)⟩ d_Waves_correct_2 X rfl (Nat.le_of_ble_eq_true rfl) (Nat.le_of_ble_eq_true rfl)
  | inl _ =>
    refine z_cXVv C kl_Waves_93 rfl (c_Waves_checkHouse X.1 hx h1) (zx4 hx 70 rfl) rfl rfl rfl (Nat.le_of_ble_eq_true rfl) ⟨(Nat.le_of_ble_eq_true rfl), (Nat.le_of_ble_eq_true rfl)⟩ ⟨(Nat.le_of_ble_eq_true rfl), (Nat.le_of_ble_eq_true rfl)⟩ d_Waves_correct_2 ?_
    refine z_aload_n C d_Waves_correct_5 0 rfl rfl ?_
    refine z_iload_n C d_Waves_correct_6 2 rfl rfl ?_
    obtain ⟨q4, h3, hf⟩ := bd_s hf
    cases q4 with
    | inr E22 =>
      cases hf
      exact z_tXVv C kl_Waves_238 rfl (c_Waves_checkNews X.1 hx h3) (zx4 hx 70 rfl) rfl rfl rfl (Nat.le_of_ble_eq_true rfl) ⟨(Nat.le_of_ble_eq_true rfl), (Nat.le_of_ble_eq_true rfl)⟩ ⟨(Nat.le_of_ble_eq_true rfl), (Nat.le_of_ble_eq_true rfl)⟩ d_Waves_correct_7 X rfl (Nat.le_of_ble_eq_true rfl) (Nat.le_of_ble_eq_true rfl)
    | inl _ =>
      refine z_cXVv C kl_Waves_238 rfl (c_Waves_checkNews X.1 hx h3) (zx4 hx 70 rfl) rfl rfl rfl (Nat.le_of_ble_eq_true rfl) ⟨(Nat.le_of_ble_eq_true rfl), (Nat.le_of_ble_eq_true rfl)⟩ ⟨(Nat.le_of_ble_eq_true rfl), (Nat.le_of_ble_eq_true rfl)⟩ d_Waves_correct_7 ?_
      refine z_iload_n C d_Waves_correct_10 3 rfl rfl ?_
      refine z_iconst C d_Waves_correct_11 zki_0 ?_
      refine z_bipush C d_Waves_correct_12 zkb_99 ?_
      obtain ⟨q6, h5, hf⟩ := bd_s hf
      cases q6 with
      | inr E21 =>
        cases hf
        exact z_tXSv C kl_Waves_56 (c_Waves_checkWithin X.1 h5) rfl rfl (Nat.le_of_ble_eq_true rfl) ⟨(Nat.le_of_ble_eq_true rfl), (Nat.le_of_ble_eq_true rfl)⟩ ⟨(Nat.le_of_ble_eq_true rfl), (Nat.le_of_ble_eq_true rfl)⟩ d_Waves_correct_14 X rfl (Nat.le_of_ble_eq_true rfl) (Nat.le_of_ble_eq_true rfl)
      | inl _ =>
        refine z_cXSv C kl_Waves_56 (c_Waves_checkWithin X.1 h5) rfl rfl (Nat.le_of_ble_eq_true rfl) ⟨(Nat.le_of_ble_eq_true rfl), (Nat.le_of_ble_eq_true rfl)⟩ ⟨(Nat.le_of_ble_eq_true rfl), (Nat.le_of_ble_eq_true rfl)⟩ d_Waves_correct_14 ?_
        refine z_aload_n C d_Waves_correct_17 0 rfl rfl ?_
        refine gf_Waves_10 C (zx4 hx 70 rfl) rfl rfl d_Waves_correct_18 ?_
        refine gf_Waves_145 C (zlv (zxv hx 0 rfl) 0 rfl) rfl rfl d_Waves_correct_21 ?_
        refine gf_Waves_259 C (zlv (zxv hx 0 rfl) 24 rfl) rfl rfl d_Waves_correct_24 ?_
        refine z_iload_n C d_Waves_correct_27 2 rfl rfl ?_
        obtain ⟨r8, h7, hf⟩ := bd_s hf
        refine z_cVi C kl_Waves_123 rfl (c_Row_get (zrow_v (zxv hx 0 rfl) 37 rfl) h7) (zlv (zxv hx 0 rfl) 37 rfl) rfl rfl rfl (Nat.le_of_ble_eq_true rfl) ⟨(Nat.le_of_ble_eq_true rfl), (Nat.le_of_ble_eq_true rfl)⟩ ⟨(Nat.le_of_ble_eq_true rfl), (Nat.le_of_ble_eq_true rfl)⟩ d_Waves_correct_28 ?_
        refine z_iload_n C d_Waves_correct_31 1 rfl rfl ?_
        obtain ⟨r10, h9, hf⟩ := bd_s hf
        refine z_cSi C kl_Waves_289 (c_Waves_contains h9) rfl rfl (Nat.le_of_ble_eq_true rfl) ⟨(Nat.le_of_ble_eq_true rfl), (Nat.le_of_ble_eq_true rfl)⟩ ⟨(Nat.le_of_ble_eq_true rfl), (Nat.le_of_ble_eq_true rfl)⟩ d_Waves_correct_32 ?_
        refine z_if_ne (tgt := 41) C d_Waves_correct_35 rfl (fun h20 => ?_) (fun h20 => ?_)
        · have hf := iff_f hf h20
          refine z_aload_n C d_Waves_correct_41 0 rfl rfl ?_
          refine gf_Waves_10 C (zx4 hx 70 rfl) rfl rfl d_Waves_correct_42 ?_
          refine gf_Waves_145 C (zlv (zxv hx 0 rfl) 0 rfl) rfl rfl d_Waves_correct_45 ?_
          refine z_iload_n C d_Waves_correct_48 2 rfl rfl ?_
          obtain ⟨r12, h11, hf⟩ := bd_s hf
          refine z_cVi C kl_Waves_292 rfl (c_Tidings_isCorrected (zxv hx 0 rfl) h11) (zlv (zxv hx 0 rfl) 24 rfl) rfl rfl rfl (Nat.le_of_ble_eq_true rfl) ⟨(Nat.le_of_ble_eq_true rfl), (Nat.le_of_ble_eq_true rfl)⟩ ⟨(Nat.le_of_ble_eq_true rfl), (Nat.le_of_ble_eq_true rfl)⟩ d_Waves_correct_49 ?_
          refine z_if_eq (tgt := 58) C d_Waves_correct_52 rfl (fun h19 => ?_) (fun h19 => ?_)
          · have hf := iff_t hf h19
            refine z_aload_n C d_Waves_correct_58 0 rfl rfl ?_
            refine gf_Waves_10 C (zx4 hx 70 rfl) rfl rfl d_Waves_correct_59 ?_
            refine z_iload_n C d_Waves_correct_62 1 rfl rfl ?_
            refine z_iload_n C d_Waves_correct_63 2 rfl rfl ?_
            refine z_iload_n C d_Waves_correct_64 3 rfl rfl ?_
            obtain ⟨σ14, h13, hf⟩ := bd_s hf
            refine z_cVv C kl_Waves_296 rfl (c_Village_addCorrection (zxv hx 0 rfl) h13) (zlv (zxv hx 0 rfl) 0 rfl) rfl rfl rfl (Nat.le_of_ble_eq_true rfl) ⟨(Nat.le_of_ble_eq_true rfl), (Nat.le_of_ble_eq_true rfl)⟩ ⟨(Nat.le_of_ble_eq_true rfl), (Nat.le_of_ble_eq_true rfl)⟩ d_Waves_correct_65 ?_
            refine z_aload_n C d_Waves_correct_68 0 rfl rfl ?_
            refine gf_Waves_10 C (zx4 hx 70 rfl) rfl rfl d_Waves_correct_69 ?_
            refine z_iload_n C d_Waves_correct_72 1 rfl rfl ?_
            refine z_iload_n C d_Waves_correct_73 2 rfl rfl ?_
            obtain ⟨r16, h15, hf⟩ := bd_s hf
            refine z_cVi C kl_Waves_277 rfl (c_Village_owedBy (zxv hx 0 rfl) h15) (zlv (zxv hx 0 rfl) 0 rfl) rfl rfl rfl (Nat.le_of_ble_eq_true rfl) ⟨(Nat.le_of_ble_eq_true rfl), (Nat.le_of_ble_eq_true rfl)⟩ ⟨(Nat.le_of_ble_eq_true rfl), (Nat.le_of_ble_eq_true rfl)⟩ d_Waves_correct_74 ?_
            obtain ⟨r18, h17, hf⟩ := bd_s hf
            refine z_cSi C kl_Waves_299 (c_Integer_bitCount h17) rfl rfl (Nat.le_of_ble_eq_true rfl) ⟨(Nat.le_of_ble_eq_true rfl), (Nat.le_of_ble_eq_true rfl)⟩ ⟨(Nat.le_of_ble_eq_true rfl), (Nat.le_of_ble_eq_true rfl)⟩ d_Waves_correct_77 ?_
            cases hf
            refine z_xret rfl ?_
            exact z_iret C rfl (Nat.le_of_ble_eq_true rfl) (Nat.le_of_ble_eq_true rfl) d_Waves_correct_80
          · have hf := iff_f hf h19
            refine z_bipush C d_Waves_correct_55 zkb_m4 ?_
            cases hf
            refine z_xret rfl ?_
            exact z_iret C rfl (Nat.le_of_ble_eq_true rfl) (Nat.le_of_ble_eq_true rfl) d_Waves_correct_57
        · have hf := iff_t hf h20
          refine z_bipush C d_Waves_correct_38 zkb_m3 ?_
          cases hf
          refine z_xret rfl ?_
          exact z_iret C rfl (Nat.le_of_ble_eq_true rfl) (Nat.le_of_ble_eq_true rfl) d_Waves_correct_40
abbrev rm_Waves_run : Room := { frames := 7, cells := 1, slots := 6, locals := 142 }
theorem d_Waves_run_0 : decode b_Waves_run 0 = .ok (.iload_n 1, 1) := by decide +kernel
theorem d_Waves_run_1 : decode b_Waves_run 1 = .ok (.iconst 1, 1) := by decide +kernel
theorem d_Waves_run_2 : decode b_Waves_run 2 = .ok (.sipush 500, 3) := by decide +kernel
theorem d_Waves_run_5 : decode b_Waves_run 5 = .ok (.invokestatic 56, 3) := by decide +kernel
theorem d_Waves_run_8 : decode b_Waves_run 8 = .ok (.aload_n 0, 1) := by decide +kernel
theorem d_Waves_run_9 : decode b_Waves_run 9 = .ok (.getfield 10, 3) := by decide +kernel
theorem d_Waves_run_12 : decode b_Waves_run 12 = .ok (.getfield 155, 3) := by decide +kernel
theorem d_Waves_run_15 : decode b_Waves_run 15 = .ok (.getfield 159, 3) := by decide +kernel
theorem d_Waves_run_18 : decode b_Waves_run 18 = .ok (.istore_n 2, 1) := by decide +kernel
theorem d_Waves_run_19 : decode b_Waves_run 19 = .ok (.aload_n 0, 1) := by decide +kernel
theorem d_Waves_run_20 : decode b_Waves_run 20 = .ok (.getfield 10, 3) := by decide +kernel
theorem d_Waves_run_23 : decode b_Waves_run 23 = .ok (.iload_n 1, 1) := by decide +kernel
theorem d_Waves_run_24 : decode b_Waves_run 24 = .ok (.invokevirtual 304, 3) := by decide +kernel
theorem d_Waves_run_27 : decode b_Waves_run 27 = .ok (.aload_n 0, 1) := by decide +kernel
theorem d_Waves_run_28 : decode b_Waves_run 28 = .ok (.getfield 10, 3) := by decide +kernel
theorem d_Waves_run_31 : decode b_Waves_run 31 = .ok (.getfield 155, 3) := by decide +kernel
theorem d_Waves_run_34 : decode b_Waves_run 34 = .ok (.getfield 159, 3) := by decide +kernel
theorem d_Waves_run_37 : decode b_Waves_run 37 = .ok (.iload_n 2, 1) := by decide +kernel
theorem d_Waves_run_38 : decode b_Waves_run 38 = .ok (.isub, 1) := by decide +kernel
theorem d_Waves_run_39 : decode b_Waves_run 39 = .ok (.ireturn, 1) := by decide +kernel
def F_Waves_run (a0 : Int32) (σ : zSt) : Option ((Int32 × zSt) ⊕ String) :=
  (F_Waves_checkWithin a0 (1 : Int32) (500 : Int32) σ).bind fun q2 => match q2 with | .inr E5 => some (.inr E5) | .inl _ => (F_Village_pass 0 a0 σ).bind fun σ4 => some (.inl (((σ4.1 0 59 0) - (σ.1 0 59 0)), σ4))
set_option maxHeartbeats 4000000 in
set_option maxRecDepth 100000 in
theorem c_Waves_run {l : Launch} (hst : l.stackTraces = false) {G : zLA} (hx : zxl G) {a0 : Int32} {σ : zSt} {out : (Int32 × zSt) ⊕ String} (hf : F_Waves_run a0 σ = some out) : zX l G y_Waves_run (zws y_Waves_run b_Waves_run 3 (some .int)) rm_Waves_run [.ref (zad G 4 70), .int a0] σ (cv_wi out σ) := by
  refine z_ofX (own := "VillageWaves") (lv := [(0, .ref (zad G 4 70)), (1, .int a0)]) (by decide +kernel) rfl rfl (Nat.le_of_ble_eq_true rfl) (fun p e s m args below meth c C X0 => ?_)
  have X : zXx l c := ⟨hst, X0⟩
  rw [F_Waves_run] at hf
  refine z_iload_n C d_Waves_run_0 1 rfl rfl ?_
  refine z_iconst C d_Waves_run_1 zki_1 ?_
  refine z_sipush C d_Waves_run_2 zks_500 ?_
  obtain ⟨q2, h1, hf⟩ := bd_s hf
  cases q2 with
  | inr E5 =>
    cases hf
    exact z_tXSv C kl_Waves_56 (c_Waves_checkWithin X.1 h1) rfl rfl (Nat.le_of_ble_eq_true rfl) ⟨(Nat.le_of_ble_eq_true rfl), (Nat.le_of_ble_eq_true rfl)⟩ ⟨(Nat.le_of_ble_eq_true rfl), (Nat.le_of_ble_eq_true rfl)⟩ d_Waves_run_5 X rfl (Nat.le_of_ble_eq_true rfl) (Nat.le_of_ble_eq_true rfl)
  | inl _ =>
    refine z_cXSv C kl_Waves_56 (c_Waves_checkWithin X.1 h1) rfl rfl (Nat.le_of_ble_eq_true rfl) ⟨(Nat.le_of_ble_eq_true rfl), (Nat.le_of_ble_eq_true rfl)⟩ ⟨(Nat.le_of_ble_eq_true rfl), (Nat.le_of_ble_eq_true rfl)⟩ d_Waves_run_5 ?_
    refine z_aload_n C d_Waves_run_8 0 rfl rfl ?_
    refine gf_Waves_10 C (zx4 hx 70 rfl) rfl rfl d_Waves_run_9 ?_
    refine gf_Waves_155 C (zlv (zxv hx 0 rfl) 0 rfl) rfl rfl d_Waves_run_12 ?_
    refine gf_Waves_159 C (zlv (zxv hx 0 rfl) 59 rfl) rfl rfl d_Waves_run_15 ?_
    refine z_istore_n C d_Waves_run_18 rfl (by decide) ?_
    refine z_aload_n C d_Waves_run_19 1 rfl rfl ?_
    refine gf_Waves_10 C (zx4 hx 70 rfl) rfl rfl d_Waves_run_20 ?_
    refine z_iload_n C d_Waves_run_23 2 rfl rfl ?_
    obtain ⟨σ4, h3, hf⟩ := bd_s hf
    refine z_cVv C kl_Waves_304 rfl (c_Village_pass (zxv hx 0 rfl) h3) (zlv (zxv hx 0 rfl) 0 rfl) rfl rfl rfl (Nat.le_of_ble_eq_true rfl) ⟨(Nat.le_of_ble_eq_true rfl), (Nat.le_of_ble_eq_true rfl)⟩ ⟨(Nat.le_of_ble_eq_true rfl), (Nat.le_of_ble_eq_true rfl)⟩ d_Waves_run_24 ?_
    refine z_aload_n C d_Waves_run_27 1 rfl rfl ?_
    refine gf_Waves_10 C (zx4 hx 70 rfl) rfl rfl d_Waves_run_28 ?_
    refine gf_Waves_155 C (zlv (zxv hx 0 rfl) 0 rfl) rfl rfl d_Waves_run_31 ?_
    refine gf_Waves_159 C (zlv (zxv hx 0 rfl) 59 rfl) rfl rfl d_Waves_run_34 ?_
    refine z_iload_n C d_Waves_run_37 0 rfl rfl ?_
    refine z_isub C d_Waves_run_38 ?_
    cases hf
    refine z_xret rfl ?_
    exact z_iret C rfl (Nat.le_of_ble_eq_true rfl) (Nat.le_of_ble_eq_true rfl) d_Waves_run_39
abbrev rm_Waves_wishingInDraft : Room := { frames := 4, cells := 0, slots := 0, locals := 153 }
theorem d_Waves_wishingInDraft_0 : decode b_Waves_wishingInDraft 0 = .ok (.aload_n 0, 1) := by decide +kernel
theorem d_Waves_wishingInDraft_1 : decode b_Waves_wishingInDraft 1 = .ok (.getfield 16, 3) := by decide +kernel
theorem d_Waves_wishingInDraft_4 : decode b_Waves_wishingInDraft 4 = .ok (.aload_n 0, 1) := by decide +kernel
theorem d_Waves_wishingInDraft_5 : decode b_Waves_wishingInDraft 5 = .ok (.getfield 10, 3) := by decide +kernel
theorem d_Waves_wishingInDraft_8 : decode b_Waves_wishingInDraft 8 = .ok (.invokevirtual 64, 3) := by decide +kernel
theorem d_Waves_wishingInDraft_11 : decode b_Waves_wishingInDraft 11 = .ok (.aload_n 0, 1) := by decide +kernel
theorem d_Waves_wishingInDraft_12 : decode b_Waves_wishingInDraft 12 = .ok (.getfield 16, 3) := by decide +kernel
theorem d_Waves_wishingInDraft_15 : decode b_Waves_wishingInDraft 15 = .ok (.invokevirtual 351, 3) := by decide +kernel
theorem d_Waves_wishingInDraft_18 : decode b_Waves_wishingInDraft 18 = .ok (.aload_n 0, 1) := by decide +kernel
theorem d_Waves_wishingInDraft_19 : decode b_Waves_wishingInDraft 19 = .ok (.getfield 16, 3) := by decide +kernel
theorem d_Waves_wishingInDraft_22 : decode b_Waves_wishingInDraft 22 = .ok (.invokevirtual 354, 3) := by decide +kernel
theorem d_Waves_wishingInDraft_25 : decode b_Waves_wishingInDraft 25 = .ok (.ireturn, 1) := by decide +kernel
def F_Waves_wishingInDraft (σ : zSt) : Option (Int32 × zSt) :=
  (F_Village_copyFrom 1 0 σ).bind fun σ2 => (F_Village_beginDay 1 σ2).bind fun σ4 => (F_Village_wishing 1 σ4).bind fun r6 => some (r6, σ4)
set_option maxHeartbeats 4000000 in
set_option maxRecDepth 100000 in
theorem c_Waves_wishingInDraft {l : Launch} {G : zLA} (hx : zxl G) {σ : zSt} {r : Int32} {σ' : zSt} (hf : F_Waves_wishingInDraft σ = some (r, σ')) : zM l G y_Waves_wishingInDraft (zws y_Waves_wishingInDraft b_Waves_wishingInDraft 1 (some .int)) rm_Waves_wishingInDraft [.ref (zad G 4 70)] σ (some (.int r)) σ' := by
  refine z_ofM (own := "VillageWaves") (lv := [(0, .ref (zad G 4 70))]) (by decide +kernel) rfl rfl (Nat.le_of_ble_eq_true rfl) (fun p e s m args below meth c C => ?_)
  rw [F_Waves_wishingInDraft] at hf
  refine z_aload_n C d_Waves_wishingInDraft_0 0 rfl rfl ?_
  refine gf_Waves_16 C (zx4 hx 70 rfl) rfl rfl d_Waves_wishingInDraft_1 ?_
  refine z_aload_n C d_Waves_wishingInDraft_4 0 rfl rfl ?_
  refine gf_Waves_10 C (zx4 hx 70 rfl) rfl rfl d_Waves_wishingInDraft_5 ?_
  obtain ⟨σ2, h1, hf⟩ := bd_s hf
  refine z_cVv C kl_Waves_64 rfl (c_Village_copyFrom (zxv hx 1 rfl) (zxv hx 0 rfl) h1) (zlv (zxv hx 1 rfl) 0 rfl) rfl rfl rfl (Nat.le_of_ble_eq_true rfl) ⟨(Nat.le_of_ble_eq_true rfl), (Nat.le_of_ble_eq_true rfl)⟩ ⟨(Nat.le_of_ble_eq_true rfl), (Nat.le_of_ble_eq_true rfl)⟩ d_Waves_wishingInDraft_8 ?_
  refine z_aload_n C d_Waves_wishingInDraft_11 0 rfl rfl ?_
  refine gf_Waves_16 C (zx4 hx 70 rfl) rfl rfl d_Waves_wishingInDraft_12 ?_
  obtain ⟨σ4, h3, hf⟩ := bd_s hf
  refine z_cVv C kl_Waves_351 rfl (c_Village_beginDay (zxv hx 1 rfl) h3) (zlv (zxv hx 1 rfl) 0 rfl) rfl rfl rfl (Nat.le_of_ble_eq_true rfl) ⟨(Nat.le_of_ble_eq_true rfl), (Nat.le_of_ble_eq_true rfl)⟩ ⟨(Nat.le_of_ble_eq_true rfl), (Nat.le_of_ble_eq_true rfl)⟩ d_Waves_wishingInDraft_15 ?_
  refine z_aload_n C d_Waves_wishingInDraft_18 0 rfl rfl ?_
  refine gf_Waves_16 C (zx4 hx 70 rfl) rfl rfl d_Waves_wishingInDraft_19 ?_
  obtain ⟨r6, h5, hf⟩ := bd_s hf
  refine z_cVi C kl_Waves_354 rfl (c_Village_wishing (zxv hx 1 rfl) h5) (zlv (zxv hx 1 rfl) 0 rfl) rfl rfl rfl (Nat.le_of_ble_eq_true rfl) ⟨(Nat.le_of_ble_eq_true rfl), (Nat.le_of_ble_eq_true rfl)⟩ ⟨(Nat.le_of_ble_eq_true rfl), (Nat.le_of_ble_eq_true rfl)⟩ d_Waves_wishingInDraft_22 ?_
  cases hf
  exact z_iret C rfl (Nat.le_of_ble_eq_true rfl) (Nat.le_of_ble_eq_true rfl) d_Waves_wishingInDraft_25
abbrev rm_Waves_wishes : Room := { frames := 5, cells := 0, slots := 0, locals := 173 }
theorem d_Waves_wishes_0 : decode b_Waves_wishes 0 = .ok (.aload_n 0, 1) := by decide +kernel
theorem d_Waves_wishes_1 : decode b_Waves_wishes 1 = .ok (.invokevirtual 307, 3) := by decide +kernel
theorem d_Waves_wishes_4 : decode b_Waves_wishes 4 = .ok (.ireturn, 1) := by decide +kernel
def F_Waves_wishes (σ : zSt) : Option (Int32 × zSt) :=
  bd2 (F_Waves_wishingInDraft σ) fun r2 σ3 => some (r2, σ3)
set_option maxHeartbeats 4000000 in
set_option maxRecDepth 100000 in
theorem c_Waves_wishes {l : Launch} {G : zLA} (hx : zxl G) {σ : zSt} {r : Int32} {σ' : zSt} (hf : F_Waves_wishes σ = some (r, σ')) : zM l G y_Waves_wishes (zws y_Waves_wishes b_Waves_wishes 1 (some .int)) rm_Waves_wishes [.ref (zad G 4 70)] σ (some (.int r)) σ' := by
  refine z_ofM (own := "VillageWaves") (lv := [(0, .ref (zad G 4 70))]) (by decide +kernel) rfl rfl (Nat.le_of_ble_eq_true rfl) (fun p e s m args below meth c C => ?_)
  rw [F_Waves_wishes] at hf
  refine z_aload_n C d_Waves_wishes_0 0 rfl rfl ?_
  obtain ⟨r2, σ3, h1, hf⟩ := bd2_s hf
  refine z_cVi C kl_Waves_307 rfl (c_Waves_wishingInDraft hx h1) (zx4 hx 70 rfl) rfl rfl rfl (Nat.le_of_ble_eq_true rfl) ⟨(Nat.le_of_ble_eq_true rfl), (Nat.le_of_ble_eq_true rfl)⟩ ⟨(Nat.le_of_ble_eq_true rfl), (Nat.le_of_ble_eq_true rfl)⟩ d_Waves_wishes_1 ?_
  cases hf
  exact z_iret C rfl (Nat.le_of_ble_eq_true rfl) (Nat.le_of_ble_eq_true rfl) d_Waves_wishes_4
abbrev rm_Waves_next : Room := { frames := 5, cells := 0, slots := 0, locals := 173 }
theorem d_Waves_next_0 : decode b_Waves_next 0 = .ok (.aload_n 0, 1) := by decide +kernel
theorem d_Waves_next_1 : decode b_Waves_next 1 = .ok (.invokevirtual 307, 3) := by decide +kernel
theorem d_Waves_next_4 : decode b_Waves_next 4 = .ok (.istore_n 1, 1) := by decide +kernel
theorem d_Waves_next_5 : decode b_Waves_next 5 = .ok (.iload_n 1, 1) := by decide +kernel
theorem d_Waves_next_6 : decode b_Waves_next 6 = .ok (.ifCond .ne 7, 3) := by decide +kernel
theorem d_Waves_next_9 : decode b_Waves_next 9 = .ok (.iconst (-1), 1) := by decide +kernel
theorem d_Waves_next_10 : decode b_Waves_next 10 = .ok (.goto 11, 3) := by decide +kernel
theorem d_Waves_next_13 : decode b_Waves_next 13 = .ok (.aload_n 0, 1) := by decide +kernel
theorem d_Waves_next_14 : decode b_Waves_next 14 = .ok (.getfield 16, 3) := by decide +kernel
theorem d_Waves_next_17 : decode b_Waves_next 17 = .ok (.iload_n 1, 1) := by decide +kernel
theorem d_Waves_next_18 : decode b_Waves_next 18 = .ok (.invokevirtual 310, 3) := by decide +kernel
theorem d_Waves_next_21 : decode b_Waves_next 21 = .ok (.ireturn, 1) := by decide +kernel
def F_Waves_next (σ : zSt) : Option (Int32 × zSt) :=
  bd2 (F_Waves_wishingInDraft σ) fun r2 σ3 => if r2 = 0 then some ((-1 : Int32), σ3) else (bd2 (F_Village_drawnOf 1 r2 σ3) fun r5 σ6 => some (r5, σ6))
set_option maxHeartbeats 4000000 in
set_option maxRecDepth 100000 in
theorem c_Waves_next {l : Launch} {G : zLA} (hx : zxl G) {σ : zSt} {r : Int32} {σ' : zSt} (hf : F_Waves_next σ = some (r, σ')) : zM l G y_Waves_next (zws y_Waves_next b_Waves_next 2 (some .int)) rm_Waves_next [.ref (zad G 4 70)] σ (some (.int r)) σ' := by
  refine z_ofM (own := "VillageWaves") (lv := [(0, .ref (zad G 4 70))]) (by decide +kernel) rfl rfl (Nat.le_of_ble_eq_true rfl) (fun p e s m args below meth c C => ?_)
  rw [F_Waves_next] at hf
  refine z_aload_n C d_Waves_next_0 0 rfl rfl ?_
  obtain ⟨r2, σ3, h1, hf⟩ := bd2_s hf
  refine z_cVi C kl_Waves_307 rfl (c_Waves_wishingInDraft hx h1) (zx4 hx 70 rfl) rfl rfl rfl (Nat.le_of_ble_eq_true rfl) ⟨(Nat.le_of_ble_eq_true rfl), (Nat.le_of_ble_eq_true rfl)⟩ ⟨(Nat.le_of_ble_eq_true rfl), (Nat.le_of_ble_eq_true rfl)⟩ d_Waves_next_1 ?_
  refine z_istore_n C d_Waves_next_4 rfl (by decide) ?_
  refine z_iload_n C d_Waves_next_5 0 rfl rfl ?_
  refine z_if_ne (tgt := 13) C d_Waves_next_6 rfl (fun h7 => ?_) (fun h7 => ?_)
  · have hf := iff_f hf h7
    refine z_aload_n C d_Waves_next_13 1 rfl rfl ?_
    refine gf_Waves_16 C (zx4 hx 70 rfl) rfl rfl d_Waves_next_14 ?_
    refine z_iload_n C d_Waves_next_17 0 rfl rfl ?_
    obtain ⟨r5, σ6, h4, hf⟩ := bd2_s hf
    refine z_cVi C kl_Waves_310 rfl (c_Village_drawnOf (zxv hx 1 rfl) h4) (zlv (zxv hx 1 rfl) 0 rfl) rfl rfl rfl (Nat.le_of_ble_eq_true rfl) ⟨(Nat.le_of_ble_eq_true rfl), (Nat.le_of_ble_eq_true rfl)⟩ ⟨(Nat.le_of_ble_eq_true rfl), (Nat.le_of_ble_eq_true rfl)⟩ d_Waves_next_18 ?_
    cases hf
    exact z_iret C rfl (Nat.le_of_ble_eq_true rfl) (Nat.le_of_ble_eq_true rfl) d_Waves_next_21
  · have hf := iff_t hf h7
    refine z_iconst C d_Waves_next_9 zki_m1 ?_
    refine z_goto (tgt := 21) C d_Waves_next_10 rfl ?_
    cases hf
    exact z_iret C rfl (Nat.le_of_ble_eq_true rfl) (Nat.le_of_ble_eq_true rfl) d_Waves_next_21
abbrev rm_Waves_chance : Room := { frames := 7, cells := 1, slots := 6, locals := 173 }
theorem d_Waves_chance_0 : decode b_Waves_chance 0 = .ok (.aload_n 0, 1) := by decide +kernel
theorem d_Waves_chance_1 : decode b_Waves_chance 1 = .ok (.iload_n 1, 1) := by decide +kernel
theorem d_Waves_chance_2 : decode b_Waves_chance 2 = .ok (.invokevirtual 93, 3) := by decide +kernel
theorem d_Waves_chance_5 : decode b_Waves_chance 5 = .ok (.aload_n 0, 1) := by decide +kernel
theorem d_Waves_chance_6 : decode b_Waves_chance 6 = .ok (.invokevirtual 307, 3) := by decide +kernel
theorem d_Waves_chance_9 : decode b_Waves_chance 9 = .ok (.istore_n 2, 1) := by decide +kernel
theorem d_Waves_chance_10 : decode b_Waves_chance 10 = .ok (.aload_n 0, 1) := by decide +kernel
theorem d_Waves_chance_11 : decode b_Waves_chance 11 = .ok (.getfield 10, 3) := by decide +kernel
theorem d_Waves_chance_14 : decode b_Waves_chance 14 = .ok (.getfield 68, 3) := by decide +kernel
theorem d_Waves_chance_17 : decode b_Waves_chance 17 = .ok (.iload_n 2, 1) := by decide +kernel
theorem d_Waves_chance_18 : decode b_Waves_chance 18 = .ok (.invokevirtual 313, 3) := by decide +kernel
theorem d_Waves_chance_21 : decode b_Waves_chance 21 = .ok (.istore_n 3, 1) := by decide +kernel
theorem d_Waves_chance_22 : decode b_Waves_chance 22 = .ok (.iload_n 2, 1) := by decide +kernel
theorem d_Waves_chance_23 : decode b_Waves_chance 23 = .ok (.iload_n 1, 1) := by decide +kernel
theorem d_Waves_chance_24 : decode b_Waves_chance 24 = .ok (.invokestatic 289, 3) := by decide +kernel
theorem d_Waves_chance_27 : decode b_Waves_chance 27 = .ok (.ifCond .eq 7, 3) := by decide +kernel
theorem d_Waves_chance_30 : decode b_Waves_chance 30 = .ok (.iload_n 3, 1) := by decide +kernel
theorem d_Waves_chance_31 : decode b_Waves_chance 31 = .ok (.ifCond .gt 5, 3) := by decide +kernel
theorem d_Waves_chance_34 : decode b_Waves_chance 34 = .ok (.dconst 0, 1) := by decide +kernel
theorem d_Waves_chance_35 : decode b_Waves_chance 35 = .ok (.dreturn, 1) := by decide +kernel
theorem d_Waves_chance_36 : decode b_Waves_chance 36 = .ok (.aload_n 0, 1) := by decide +kernel
theorem d_Waves_chance_37 : decode b_Waves_chance 37 = .ok (.getfield 10, 3) := by decide +kernel
theorem d_Waves_chance_40 : decode b_Waves_chance 40 = .ok (.getfield 68, 3) := by decide +kernel
theorem d_Waves_chance_43 : decode b_Waves_chance 43 = .ok (.getfield 194, 3) := by decide +kernel
theorem d_Waves_chance_46 : decode b_Waves_chance 46 = .ok (.iload_n 1, 1) := by decide +kernel
theorem d_Waves_chance_47 : decode b_Waves_chance 47 = .ok (.invokevirtual 123, 3) := by decide +kernel
theorem d_Waves_chance_50 : decode b_Waves_chance 50 = .ok (.i2d, 1) := by decide +kernel
theorem d_Waves_chance_51 : decode b_Waves_chance 51 = .ok (.iload_n 3, 1) := by decide +kernel
theorem d_Waves_chance_52 : decode b_Waves_chance 52 = .ok (.i2d, 1) := by decide +kernel
theorem d_Waves_chance_53 : decode b_Waves_chance 53 = .ok (.ddiv, 1) := by decide +kernel
theorem d_Waves_chance_54 : decode b_Waves_chance 54 = .ok (.dreturn, 1) := by decide +kernel
def F_Waves_chance (a0 : Int32) (σ : zSt) : Option ((UInt64 × zSt) ⊕ String) :=
  (F_Waves_checkHouse a0 σ).bind fun q2 => match q2 with | .inr E15 => some (.inr E15) | .inl _ => bd2 (F_Waves_wishingInDraft σ) fun r4 σ5 => (F_Homes_sharesOf 0 r4 σ5).bind fun r7 => (F_Waves_contains r4 a0 σ5).bind fun r9 => if r9 = 0 then some (.inl (FP.dconst0, σ5)) else (if 0 < r7 then ((F_Row_get 0 12 a0 σ5).bind fun r11 => if zn64 (FP.ddiv (FP.i2d r11) (FP.i2d r7)) = true then some (.inl ((FP.ddiv (FP.i2d r11) (FP.i2d r7)), σ5)) else none) else some (.inl (FP.dconst0, σ5)))
set_option maxHeartbeats 4000000 in
set_option maxRecDepth 100000 in
theorem c_Waves_chance {l : Launch} (hst : l.stackTraces = false) {G : zLA} (hx : zxl G) {a0 : Int32} {σ : zSt} {out : (UInt64 × zSt) ⊕ String} (hf : F_Waves_chance a0 σ = some out) : zX l G y_Waves_chance (zws y_Waves_chance b_Waves_chance 4 (some .double)) rm_Waves_chance [.ref (zad G 4 70), .int a0] σ (cv_wd out σ) := by
  refine z_ofX (own := "VillageWaves") (lv := [(0, .ref (zad G 4 70)), (1, .int a0)]) (by decide +kernel) rfl rfl (Nat.le_of_ble_eq_true rfl) (fun p e s m args below meth c C X0 => ?_)
  have X : zXx l c := ⟨hst, X0⟩
  rw [F_Waves_chance] at hf
  refine z_aload_n C d_Waves_chance_0 0 rfl rfl ?_
  refine z_iload_n C d_Waves_chance_1 1 rfl rfl ?_
  obtain ⟨q2, h1, hf⟩ := bd_s hf
  cases q2 with
  | inr E15 =>
    cases hf
    exact z_tXVv C kl_Waves_93 rfl (c_Waves_checkHouse X.1 hx h1) (zx4 hx 70 rfl) rfl rfl rfl (Nat.le_of_ble_eq_true rfl) ⟨(Nat.le_of_ble_eq_true rfl), (Nat.le_of_ble_eq_true rfl)⟩ ⟨(Nat.le_of_ble_eq_true rfl), (Nat.le_of_ble_eq_true rfl)⟩ d_Waves_chance_2 X rfl (Nat.le_of_ble_eq_true rfl) (Nat.le_of_ble_eq_true rfl)
  | inl _ =>
    refine z_cXVv C kl_Waves_93 rfl (c_Waves_checkHouse X.1 hx h1) (zx4 hx 70 rfl) rfl rfl rfl (Nat.le_of_ble_eq_true rfl) ⟨(Nat.le_of_ble_eq_true rfl), (Nat.le_of_ble_eq_true rfl)⟩ ⟨(Nat.le_of_ble_eq_true rfl), (Nat.le_of_ble_eq_true rfl)⟩ d_Waves_chance_2 ?_
    refine z_aload_n C d_Waves_chance_5 0 rfl rfl ?_
    obtain ⟨r4, σ5, h3, hf⟩ := bd2_s hf
    refine z_cVi C kl_Waves_307 rfl (c_Waves_wishingInDraft hx h3) (zx4 hx 70 rfl) rfl rfl rfl (Nat.le_of_ble_eq_true rfl) ⟨(Nat.le_of_ble_eq_true rfl), (Nat.le_of_ble_eq_true rfl)⟩ ⟨(Nat.le_of_ble_eq_true rfl), (Nat.le_of_ble_eq_true rfl)⟩ d_Waves_chance_6 ?_
    refine z_istore_n C d_Waves_chance_9 rfl (by decide) ?_
    refine z_aload_n C d_Waves_chance_10 1 rfl rfl ?_
    refine gf_Waves_10 C (zx4 hx 70 rfl) rfl rfl d_Waves_chance_11 ?_
    refine gf_Waves_68 C (zlv (zxv hx 0 rfl) 0 rfl) rfl rfl d_Waves_chance_14 ?_
    refine z_iload_n C d_Waves_chance_17 0 rfl rfl ?_
    obtain ⟨r7, h6, hf⟩ := bd_s hf
    refine z_cVi C kl_Waves_313 rfl (c_Homes_sharesOf (zxv hx 0 rfl) h6) (zlv (zxv hx 0 rfl) 3 rfl) rfl rfl rfl (Nat.le_of_ble_eq_true rfl) ⟨(Nat.le_of_ble_eq_true rfl), (Nat.le_of_ble_eq_true rfl)⟩ ⟨(Nat.le_of_ble_eq_true rfl), (Nat.le_of_ble_eq_true rfl)⟩ d_Waves_chance_18 ?_
    refine z_istore_n C d_Waves_chance_21 rfl (by decide) ?_
    refine z_iload_n C d_Waves_chance_22 1 rfl rfl ?_
    refine z_iload_n C d_Waves_chance_23 3 rfl rfl ?_
    obtain ⟨r9, h8, hf⟩ := bd_s hf
    refine z_cSi C kl_Waves_289 (c_Waves_contains h8) rfl rfl (Nat.le_of_ble_eq_true rfl) ⟨(Nat.le_of_ble_eq_true rfl), (Nat.le_of_ble_eq_true rfl)⟩ ⟨(Nat.le_of_ble_eq_true rfl), (Nat.le_of_ble_eq_true rfl)⟩ d_Waves_chance_24 ?_
    refine z_if_eq (tgt := 34) C d_Waves_chance_27 rfl (fun h14 => ?_) (fun h14 => ?_)
    · have hf := iff_t hf h14
      refine z_dconst0 C d_Waves_chance_34 ?_
      cases hf
      refine z_xret rfl ?_
      exact z_dret C rfl (Nat.le_of_ble_eq_true rfl) (Nat.le_of_ble_eq_true rfl) d_Waves_chance_35
    · have hf := iff_f hf h14
      refine z_iload_n C d_Waves_chance_30 0 rfl rfl ?_
      refine z_if_gt (tgt := 36) C d_Waves_chance_31 rfl (fun h13 => ?_) (fun h13 => ?_)
      · have hf := iff_t hf h13
        refine z_aload_n C d_Waves_chance_36 2 rfl rfl ?_
        refine gf_Waves_10 C (zx4 hx 70 rfl) rfl rfl d_Waves_chance_37 ?_
        refine gf_Waves_68 C (zlv (zxv hx 0 rfl) 0 rfl) rfl rfl d_Waves_chance_40 ?_
        refine gf_Waves_194 C (zlv (zxv hx 0 rfl) 3 rfl) rfl rfl d_Waves_chance_43 ?_
        refine z_iload_n C d_Waves_chance_46 3 rfl rfl ?_
        obtain ⟨r11, h10, hf⟩ := bd_s hf
        refine z_cVi C kl_Waves_123 rfl (c_Row_get (zrow_v (zxv hx 0 rfl) 12 rfl) h10) (zlv (zxv hx 0 rfl) 12 rfl) rfl rfl rfl (Nat.le_of_ble_eq_true rfl) ⟨(Nat.le_of_ble_eq_true rfl), (Nat.le_of_ble_eq_true rfl)⟩ ⟨(Nat.le_of_ble_eq_true rfl), (Nat.le_of_ble_eq_true rfl)⟩ d_Waves_chance_47 ?_
        refine z_i2d C d_Waves_chance_50 ?_
        refine z_iload_n C d_Waves_chance_51 0 rfl rfl ?_
        refine z_i2d C d_Waves_chance_52 ?_
        obtain ⟨h12, hf⟩ := iff_g hf
        refine z_ddiv C d_Waves_chance_53 (zn64_n h12) ?_
        cases hf
        refine z_xret rfl ?_
        exact z_dret C rfl (Nat.le_of_ble_eq_true rfl) (Nat.le_of_ble_eq_true rfl) d_Waves_chance_54
      · have hf := iff_f hf h13
        refine z_dconst0 C d_Waves_chance_34 ?_
        cases hf
        refine z_xret rfl ?_
        exact z_dret C rfl (Nat.le_of_ble_eq_true rfl) (Nat.le_of_ble_eq_true rfl) d_Waves_chance_35
abbrev rm_Waves_near : Room := { frames := 7, cells := 2, slots := 12, locals := 113 }
theorem d_Waves_near_0 : decode b_Waves_near 0 = .ok (.aload_n 0, 1) := by decide +kernel
theorem d_Waves_near_1 : decode b_Waves_near 1 = .ok (.iload_n 1, 1) := by decide +kernel
theorem d_Waves_near_2 : decode b_Waves_near 2 = .ok (.invokevirtual 93, 3) := by decide +kernel
theorem d_Waves_near_5 : decode b_Waves_near 5 = .ok (.iload_n 2, 1) := by decide +kernel
theorem d_Waves_near_6 : decode b_Waves_near 6 = .ok (.ifCond .ge 14, 3) := by decide +kernel
theorem d_Waves_near_9 : decode b_Waves_near 9 = .ok (.new 222, 3) := by decide +kernel
theorem d_Waves_near_12 : decode b_Waves_near 12 = .ok (.dup, 1) := by decide +kernel
theorem d_Waves_near_13 : decode b_Waves_near 13 = .ok (.ldc_w 280, 3) := by decide +kernel
theorem d_Waves_near_16 : decode b_Waves_near 16 = .ok (.invokespecial 226, 3) := by decide +kernel
theorem d_Waves_near_19 : decode b_Waves_near 19 = .ok (.athrow, 1) := by decide +kernel
theorem d_Waves_near_20 : decode b_Waves_near 20 = .ok (.aload_n 0, 1) := by decide +kernel
theorem d_Waves_near_21 : decode b_Waves_near 21 = .ok (.getfield 10, 3) := by decide +kernel
theorem d_Waves_near_24 : decode b_Waves_near 24 = .ok (.getfield 68, 3) := by decide +kernel
theorem d_Waves_near_27 : decode b_Waves_near 27 = .ok (.iload_n 1, 1) := by decide +kernel
theorem d_Waves_near_28 : decode b_Waves_near 28 = .ok (.iload_n 2, 1) := by decide +kernel
theorem d_Waves_near_29 : decode b_Waves_near 29 = .ok (.invokevirtual 316, 3) := by decide +kernel
theorem d_Waves_near_32 : decode b_Waves_near 32 = .ok (.ireturn, 1) := by decide +kernel
def F_Waves_near (a0 : Int32) (a1 : Int32) (σ : zSt) : Option ((Int32) ⊕ String) :=
  (F_Waves_checkHouse a0 σ).bind fun q2 => match q2 with | .inr E6 => some (.inr E6) | .inl _ => if 0 ≤ a1 then ((F_Homes_nearest 0 a0 a1 σ).bind fun r4 => some (.inl r4)) else some (.inr "java/lang/IndexOutOfBoundsException")
set_option maxHeartbeats 4000000 in
set_option maxRecDepth 100000 in
theorem c_Waves_near {l : Launch} (hst : l.stackTraces = false) {G : zLA} (hx : zxl G) {a0 : Int32} {a1 : Int32} {σ : zSt} {out : (Int32) ⊕ String} (hf : F_Waves_near a0 a1 σ = some out) : zX l G y_Waves_near (zws y_Waves_near b_Waves_near 3 (some .int)) rm_Waves_near [.ref (zad G 4 70), .int a0, .int a1] σ (cv_pi out σ) := by
  refine z_ofX (own := "VillageWaves") (lv := [(0, .ref (zad G 4 70)), (1, .int a0), (2, .int a1)]) (by decide +kernel) rfl rfl (Nat.le_of_ble_eq_true rfl) (fun p e s m args below meth c C X0 => ?_)
  have X : zXx l c := ⟨hst, X0⟩
  rw [F_Waves_near] at hf
  refine z_aload_n C d_Waves_near_0 0 rfl rfl ?_
  refine z_iload_n C d_Waves_near_1 1 rfl rfl ?_
  obtain ⟨q2, h1, hf⟩ := bd_s hf
  cases q2 with
  | inr E6 =>
    cases hf
    exact z_tXVv C kl_Waves_93 rfl (c_Waves_checkHouse X.1 hx h1) (zx4 hx 70 rfl) rfl rfl rfl (Nat.le_of_ble_eq_true rfl) ⟨(Nat.le_of_ble_eq_true rfl), (Nat.le_of_ble_eq_true rfl)⟩ ⟨(Nat.le_of_ble_eq_true rfl), (Nat.le_of_ble_eq_true rfl)⟩ d_Waves_near_2 X rfl (Nat.le_of_ble_eq_true rfl) (Nat.le_of_ble_eq_true rfl)
  | inl _ =>
    refine z_cXVv C kl_Waves_93 rfl (c_Waves_checkHouse X.1 hx h1) (zx4 hx 70 rfl) rfl rfl rfl (Nat.le_of_ble_eq_true rfl) ⟨(Nat.le_of_ble_eq_true rfl), (Nat.le_of_ble_eq_true rfl)⟩ ⟨(Nat.le_of_ble_eq_true rfl), (Nat.le_of_ble_eq_true rfl)⟩ d_Waves_near_2 ?_
    refine z_iload_n C d_Waves_near_5 2 rfl rfl ?_
    refine z_if_ge (tgt := 20) C d_Waves_near_6 rfl (fun h5 => ?_) (fun h5 => ?_)
    · have hf := iff_t hf h5
      refine z_aload_n C d_Waves_near_20 0 rfl rfl ?_
      refine gf_Waves_10 C (zx4 hx 70 rfl) rfl rfl d_Waves_near_21 ?_
      refine gf_Waves_68 C (zlv (zxv hx 0 rfl) 0 rfl) rfl rfl d_Waves_near_24 ?_
      refine z_iload_n C d_Waves_near_27 1 rfl rfl ?_
      refine z_iload_n C d_Waves_near_28 2 rfl rfl ?_
      obtain ⟨r4, h3, hf⟩ := bd_s hf
      refine z_cVi C kl_Waves_316 rfl (c_Homes_nearest (zxv hx 0 rfl) h3) (zlv (zxv hx 0 rfl) 3 rfl) rfl rfl rfl (Nat.le_of_ble_eq_true rfl) ⟨(Nat.le_of_ble_eq_true rfl), (Nat.le_of_ble_eq_true rfl)⟩ ⟨(Nat.le_of_ble_eq_true rfl), (Nat.le_of_ble_eq_true rfl)⟩ d_Waves_near_29 ?_
      cases hf
      refine z_xret rfl ?_
      exact z_iret C rfl (Nat.le_of_ble_eq_true rfl) (Nat.le_of_ble_eq_true rfl) d_Waves_near_32
    · have hf := iff_f hf h5
      cases hf
      exact zth_226_280 C X rfl d_Waves_near_9 d_Waves_near_12 d_Waves_near_13 d_Waves_near_16 d_Waves_near_19 (Nat.le_of_ble_eq_true rfl) (Nat.le_of_ble_eq_true rfl) (Nat.le_of_ble_eq_true rfl) (Nat.le_of_ble_eq_true rfl) (Nat.le_of_ble_eq_true rfl) (Nat.le_of_ble_eq_true rfl)
abbrev rm_Waves_hops : Room := { frames := 7, cells := 2, slots := 12, locals := 113 }
theorem d_Waves_hops_0 : decode b_Waves_hops 0 = .ok (.aload_n 0, 1) := by decide +kernel
theorem d_Waves_hops_1 : decode b_Waves_hops 1 = .ok (.iload_n 1, 1) := by decide +kernel
theorem d_Waves_hops_2 : decode b_Waves_hops 2 = .ok (.invokevirtual 93, 3) := by decide +kernel
theorem d_Waves_hops_5 : decode b_Waves_hops 5 = .ok (.aload_n 0, 1) := by decide +kernel
theorem d_Waves_hops_6 : decode b_Waves_hops 6 = .ok (.iload_n 2, 1) := by decide +kernel
theorem d_Waves_hops_7 : decode b_Waves_hops 7 = .ok (.invokevirtual 93, 3) := by decide +kernel
theorem d_Waves_hops_10 : decode b_Waves_hops 10 = .ok (.aload_n 0, 1) := by decide +kernel
theorem d_Waves_hops_11 : decode b_Waves_hops 11 = .ok (.getfield 10, 3) := by decide +kernel
theorem d_Waves_hops_14 : decode b_Waves_hops 14 = .ok (.getfield 68, 3) := by decide +kernel
theorem d_Waves_hops_17 : decode b_Waves_hops 17 = .ok (.iload_n 1, 1) := by decide +kernel
theorem d_Waves_hops_18 : decode b_Waves_hops 18 = .ok (.iload_n 2, 1) := by decide +kernel
theorem d_Waves_hops_19 : decode b_Waves_hops 19 = .ok (.invokevirtual 319, 3) := by decide +kernel
theorem d_Waves_hops_22 : decode b_Waves_hops 22 = .ok (.ireturn, 1) := by decide +kernel
def F_Waves_hops (a0 : Int32) (a1 : Int32) (σ : zSt) : Option ((Int32) ⊕ String) :=
  (F_Waves_checkHouse a0 σ).bind fun q2 => match q2 with | .inr E8 => some (.inr E8) | .inl _ => (F_Waves_checkHouse a1 σ).bind fun q4 => match q4 with | .inr E7 => some (.inr E7) | .inl _ => (F_Homes_sendings 0 a0 a1 σ).bind fun r6 => some (.inl r6)
set_option maxHeartbeats 4000000 in
set_option maxRecDepth 100000 in
theorem c_Waves_hops {l : Launch} (hst : l.stackTraces = false) {G : zLA} (hx : zxl G) {a0 : Int32} {a1 : Int32} {σ : zSt} {out : (Int32) ⊕ String} (hf : F_Waves_hops a0 a1 σ = some out) : zX l G y_Waves_hops (zws y_Waves_hops b_Waves_hops 3 (some .int)) rm_Waves_hops [.ref (zad G 4 70), .int a0, .int a1] σ (cv_pi out σ) := by
  refine z_ofX (own := "VillageWaves") (lv := [(0, .ref (zad G 4 70)), (1, .int a0), (2, .int a1)]) (by decide +kernel) rfl rfl (Nat.le_of_ble_eq_true rfl) (fun p e s m args below meth c C X0 => ?_)
  have X : zXx l c := ⟨hst, X0⟩
  rw [F_Waves_hops] at hf
  refine z_aload_n C d_Waves_hops_0 0 rfl rfl ?_
  refine z_iload_n C d_Waves_hops_1 1 rfl rfl ?_
  obtain ⟨q2, h1, hf⟩ := bd_s hf
  cases q2 with
  | inr E8 =>
    cases hf
    exact z_tXVv C kl_Waves_93 rfl (c_Waves_checkHouse X.1 hx h1) (zx4 hx 70 rfl) rfl rfl rfl (Nat.le_of_ble_eq_true rfl) ⟨(Nat.le_of_ble_eq_true rfl), (Nat.le_of_ble_eq_true rfl)⟩ ⟨(Nat.le_of_ble_eq_true rfl), (Nat.le_of_ble_eq_true rfl)⟩ d_Waves_hops_2 X rfl (Nat.le_of_ble_eq_true rfl) (Nat.le_of_ble_eq_true rfl)
  | inl _ =>
    refine z_cXVv C kl_Waves_93 rfl (c_Waves_checkHouse X.1 hx h1) (zx4 hx 70 rfl) rfl rfl rfl (Nat.le_of_ble_eq_true rfl) ⟨(Nat.le_of_ble_eq_true rfl), (Nat.le_of_ble_eq_true rfl)⟩ ⟨(Nat.le_of_ble_eq_true rfl), (Nat.le_of_ble_eq_true rfl)⟩ d_Waves_hops_2 ?_
    refine z_aload_n C d_Waves_hops_5 0 rfl rfl ?_
    refine z_iload_n C d_Waves_hops_6 2 rfl rfl ?_
    obtain ⟨q4, h3, hf⟩ := bd_s hf
    cases q4 with
    | inr E7 =>
      cases hf
      exact z_tXVv C kl_Waves_93 rfl (c_Waves_checkHouse X.1 hx h3) (zx4 hx 70 rfl) rfl rfl rfl (Nat.le_of_ble_eq_true rfl) ⟨(Nat.le_of_ble_eq_true rfl), (Nat.le_of_ble_eq_true rfl)⟩ ⟨(Nat.le_of_ble_eq_true rfl), (Nat.le_of_ble_eq_true rfl)⟩ d_Waves_hops_7 X rfl (Nat.le_of_ble_eq_true rfl) (Nat.le_of_ble_eq_true rfl)
    | inl _ =>
      refine z_cXVv C kl_Waves_93 rfl (c_Waves_checkHouse X.1 hx h3) (zx4 hx 70 rfl) rfl rfl rfl (Nat.le_of_ble_eq_true rfl) ⟨(Nat.le_of_ble_eq_true rfl), (Nat.le_of_ble_eq_true rfl)⟩ ⟨(Nat.le_of_ble_eq_true rfl), (Nat.le_of_ble_eq_true rfl)⟩ d_Waves_hops_7 ?_
      refine z_aload_n C d_Waves_hops_10 0 rfl rfl ?_
      refine gf_Waves_10 C (zx4 hx 70 rfl) rfl rfl d_Waves_hops_11 ?_
      refine gf_Waves_68 C (zlv (zxv hx 0 rfl) 0 rfl) rfl rfl d_Waves_hops_14 ?_
      refine z_iload_n C d_Waves_hops_17 1 rfl rfl ?_
      refine z_iload_n C d_Waves_hops_18 2 rfl rfl ?_
      obtain ⟨r6, h5, hf⟩ := bd_s hf
      refine z_cVi C kl_Waves_319 rfl (c_Homes_sendings (zxv hx 0 rfl) h5) (zlv (zxv hx 0 rfl) 3 rfl) rfl rfl rfl (Nat.le_of_ble_eq_true rfl) ⟨(Nat.le_of_ble_eq_true rfl), (Nat.le_of_ble_eq_true rfl)⟩ ⟨(Nat.le_of_ble_eq_true rfl), (Nat.le_of_ble_eq_true rfl)⟩ d_Waves_hops_19 ?_
      cases hf
      refine z_xret rfl ?_
      exact z_iret C rfl (Nat.le_of_ble_eq_true rfl) (Nat.le_of_ble_eq_true rfl) d_Waves_hops_22
abbrev rm_Waves_overlap : Room := { frames := 7, cells := 2, slots := 12, locals := 113 }
theorem d_Waves_overlap_0 : decode b_Waves_overlap 0 = .ok (.aload_n 0, 1) := by decide +kernel
theorem d_Waves_overlap_1 : decode b_Waves_overlap 1 = .ok (.iload_n 1, 1) := by decide +kernel
theorem d_Waves_overlap_2 : decode b_Waves_overlap 2 = .ok (.invokevirtual 93, 3) := by decide +kernel
theorem d_Waves_overlap_5 : decode b_Waves_overlap 5 = .ok (.aload_n 0, 1) := by decide +kernel
theorem d_Waves_overlap_6 : decode b_Waves_overlap 6 = .ok (.iload_n 2, 1) := by decide +kernel
theorem d_Waves_overlap_7 : decode b_Waves_overlap 7 = .ok (.invokevirtual 93, 3) := by decide +kernel
theorem d_Waves_overlap_10 : decode b_Waves_overlap 10 = .ok (.iconst 0, 1) := by decide +kernel
theorem d_Waves_overlap_11 : decode b_Waves_overlap 11 = .ok (.istore_n 3, 1) := by decide +kernel
theorem d_Waves_overlap_12 : decode b_Waves_overlap 12 = .ok (.iconst 0, 1) := by decide +kernel
theorem d_Waves_overlap_13 : decode b_Waves_overlap 13 = .ok (.istore 4, 2) := by decide +kernel
theorem d_Waves_overlap_15 : decode b_Waves_overlap 15 = .ok (.iload 4, 2) := by decide +kernel
theorem d_Waves_overlap_17 : decode b_Waves_overlap 17 = .ok (.aload_n 0, 1) := by decide +kernel
theorem d_Waves_overlap_18 : decode b_Waves_overlap 18 = .ok (.getfield 10, 3) := by decide +kernel
theorem d_Waves_overlap_21 : decode b_Waves_overlap 21 = .ok (.getfield 96, 3) := by decide +kernel
theorem d_Waves_overlap_24 : decode b_Waves_overlap 24 = .ok (.if_icmp .ge 44, 3) := by decide +kernel
theorem d_Waves_overlap_27 : decode b_Waves_overlap 27 = .ok (.aload_n 0, 1) := by decide +kernel
theorem d_Waves_overlap_28 : decode b_Waves_overlap 28 = .ok (.getfield 10, 3) := by decide +kernel
theorem d_Waves_overlap_31 : decode b_Waves_overlap 31 = .ok (.getfield 68, 3) := by decide +kernel
theorem d_Waves_overlap_34 : decode b_Waves_overlap 34 = .ok (.iload_n 1, 1) := by decide +kernel
theorem d_Waves_overlap_35 : decode b_Waves_overlap 35 = .ok (.iload 4, 2) := by decide +kernel
theorem d_Waves_overlap_37 : decode b_Waves_overlap 37 = .ok (.invokevirtual 197, 3) := by decide +kernel
theorem d_Waves_overlap_40 : decode b_Waves_overlap 40 = .ok (.ifCond .ne 22, 3) := by decide +kernel
theorem d_Waves_overlap_43 : decode b_Waves_overlap 43 = .ok (.aload_n 0, 1) := by decide +kernel
theorem d_Waves_overlap_44 : decode b_Waves_overlap 44 = .ok (.getfield 10, 3) := by decide +kernel
theorem d_Waves_overlap_47 : decode b_Waves_overlap 47 = .ok (.getfield 68, 3) := by decide +kernel
theorem d_Waves_overlap_50 : decode b_Waves_overlap 50 = .ok (.iload_n 2, 1) := by decide +kernel
theorem d_Waves_overlap_51 : decode b_Waves_overlap 51 = .ok (.iload 4, 2) := by decide +kernel
theorem d_Waves_overlap_53 : decode b_Waves_overlap 53 = .ok (.invokevirtual 197, 3) := by decide +kernel
theorem d_Waves_overlap_56 : decode b_Waves_overlap 56 = .ok (.ifCond .ne 6, 3) := by decide +kernel
theorem d_Waves_overlap_59 : decode b_Waves_overlap 59 = .ok (.iinc 3 1, 3) := by decide +kernel
theorem d_Waves_overlap_62 : decode b_Waves_overlap 62 = .ok (.iinc 4 1, 3) := by decide +kernel
theorem d_Waves_overlap_65 : decode b_Waves_overlap 65 = .ok (.goto (-50), 3) := by decide +kernel
theorem d_Waves_overlap_68 : decode b_Waves_overlap 68 = .ok (.iload_n 3, 1) := by decide +kernel
theorem d_Waves_overlap_69 : decode b_Waves_overlap 69 = .ok (.ireturn, 1) := by decide +kernel
def L_Waves_overlap (σ : zSt) : Nat → Nat → Int32 → Int32 → Int32 → Int32 → Option ((Int32) ⊕ String)
  | 0, _, _, _, _, _ => none
  | n + 1, 0, x1, x2, x3, x4 => if (σ.1 0 0 0) ≤ x4 then some (.inl x3) else ((F_Homes_isQuiet 0 x1 x4 σ).bind fun r8 => if r8 = 0 then ((F_Homes_isQuiet 0 x2 x4 σ).bind fun r10 => if r10 = 0 then L_Waves_overlap σ n 0 x1 x2 (x3 + (1 : Int32)) (x4 + (1 : Int32)) else L_Waves_overlap σ n 0 x1 x2 x3 (x4 + (1 : Int32))) else L_Waves_overlap σ n 0 x1 x2 x3 (x4 + (1 : Int32)))
  | _ + 1, _, _, _, _, _ => none
theorem e_Waves_overlap_0 (σ : zSt) (n : Nat) (x1 : Int32) (x2 : Int32) (x3 : Int32) (x4 : Int32) : L_Waves_overlap σ (n + 1) 0 x1 x2 x3 x4 = (if (σ.1 0 0 0) ≤ x4 then some (.inl x3) else ((F_Homes_isQuiet 0 x1 x4 σ).bind fun r8 => if r8 = 0 then ((F_Homes_isQuiet 0 x2 x4 σ).bind fun r10 => if r10 = 0 then L_Waves_overlap σ n 0 x1 x2 (x3 + (1 : Int32)) (x4 + (1 : Int32)) else L_Waves_overlap σ n 0 x1 x2 x3 (x4 + (1 : Int32))) else L_Waves_overlap σ n 0 x1 x2 x3 (x4 + (1 : Int32)))) := rfl
set_option maxHeartbeats 4000000 in
set_option maxRecDepth 100000 in
theorem w_Waves_overlap {l : Launch} {G : zLA} {p : Program} {e : Env} {s : State} {m : MethodId} {args : Array Value} {below : List Frame} {meth : Method} {c : Code} (C : zCx G p s m args meth c "VillageWaves" b_Waves_overlap 5 (some .int)) (X : zXx l c) (hx : zxl G) {σ : zSt} {out : (Int32) ⊕ String} : ∀ n : Nat, (∀ (x1 : Int32) (x2 : Int32) (x3 : Int32) (x4 : Int32), L_Waves_overlap σ n 0 x1 x2 x3 x4 = some out → zWV G p l e rm_Waves_overlap s m args below meth c 5 2 12 (zXQ G below args s rm_Waves_overlap (cv_pi out σ) σ) 15 [(0, .ref (zad G 4 70)), (1, .int x1), (2, .int x2), (3, .int x3), (4, .int x4)] [] σ) := by
  intro n
  induction n with
  | zero => exact fun _ _ _ _ hf => (by cases hf)
  | succ n ih =>
    refine ?_
    · intro x1 x2 x3 x4 hf
      rw [e_Waves_overlap_0] at hf
      refine z_iload C d_Waves_overlap_15 4 rfl ?_
      refine z_aload_n C d_Waves_overlap_17 0 rfl rfl ?_
      refine gf_Waves_10 C (zx4 hx 70 rfl) rfl rfl d_Waves_overlap_18 ?_
      refine gf_Waves_96 C (zlv (zxv hx 0 rfl) 0 rfl) rfl rfl d_Waves_overlap_21 ?_
      refine z_icmp_ge (tgt := 68) C d_Waves_overlap_24 rfl (fun h13 => ?_) (fun h13 => ?_)
      · have hf := iff_t hf h13
        refine z_iload_n C d_Waves_overlap_68 3 rfl rfl ?_
        cases hf
        refine z_xret rfl ?_
        exact z_iret C rfl (Nat.le_of_ble_eq_true rfl) (Nat.le_of_ble_eq_true rfl) d_Waves_overlap_69
      · have hf := iff_f hf h13
        refine z_aload_n C d_Waves_overlap_27 0 rfl rfl ?_
        refine gf_Waves_10 C (zx4 hx 70 rfl) rfl rfl d_Waves_overlap_28 ?_
        refine gf_Waves_68 C (zlv (zxv hx 0 rfl) 0 rfl) rfl rfl d_Waves_overlap_31 ?_
        refine z_iload_n C d_Waves_overlap_34 1 rfl rfl ?_
        refine z_iload C d_Waves_overlap_35 4 rfl ?_
        obtain ⟨r8, h7, hf⟩ := bd_s hf
        refine z_cVi C kl_Waves_197 rfl (c_Homes_isQuiet (zxv hx 0 rfl) h7) (zlv (zxv hx 0 rfl) 3 rfl) rfl rfl rfl (Nat.le_of_ble_eq_true rfl) ⟨(Nat.le_of_ble_eq_true rfl), (Nat.le_of_ble_eq_true rfl)⟩ ⟨(Nat.le_of_ble_eq_true rfl), (Nat.le_of_ble_eq_true rfl)⟩ d_Waves_overlap_37 ?_
        refine z_if_ne (tgt := 62) C d_Waves_overlap_40 rfl (fun h12 => ?_) (fun h12 => ?_)
        · have hf := iff_f hf h12
          refine z_iinc C d_Waves_overlap_62 4 rfl zki_1 (by decide) ?_
          refine z_goto (tgt := 15) C d_Waves_overlap_65 rfl ?_
          exact z_sub [1, 2, 3, 4, 0] rfl (ih _ _ _ _ hf)
        · have hf := iff_t hf h12
          refine z_aload_n C d_Waves_overlap_43 0 rfl rfl ?_
          refine gf_Waves_10 C (zx4 hx 70 rfl) rfl rfl d_Waves_overlap_44 ?_
          refine gf_Waves_68 C (zlv (zxv hx 0 rfl) 0 rfl) rfl rfl d_Waves_overlap_47 ?_
          refine z_iload_n C d_Waves_overlap_50 2 rfl rfl ?_
          refine z_iload C d_Waves_overlap_51 4 rfl ?_
          obtain ⟨r10, h9, hf⟩ := bd_s hf
          refine z_cVi C kl_Waves_197 rfl (c_Homes_isQuiet (zxv hx 0 rfl) h9) (zlv (zxv hx 0 rfl) 3 rfl) rfl rfl rfl (Nat.le_of_ble_eq_true rfl) ⟨(Nat.le_of_ble_eq_true rfl), (Nat.le_of_ble_eq_true rfl)⟩ ⟨(Nat.le_of_ble_eq_true rfl), (Nat.le_of_ble_eq_true rfl)⟩ d_Waves_overlap_53 ?_
          refine z_if_ne (tgt := 62) C d_Waves_overlap_56 rfl (fun h11 => ?_) (fun h11 => ?_)
          · have hf := iff_f hf h11
            refine z_iinc C d_Waves_overlap_62 4 rfl zki_1 (by decide) ?_
            refine z_goto (tgt := 15) C d_Waves_overlap_65 rfl ?_
            exact z_sub [1, 2, 3, 4, 0] rfl (ih _ _ _ _ hf)
          · have hf := iff_t hf h11
            refine z_iinc C d_Waves_overlap_59 3 rfl zki_1 (by decide) ?_
            refine z_iinc C d_Waves_overlap_62 4 rfl zki_1 (by decide) ?_
            refine z_goto (tgt := 15) C d_Waves_overlap_65 rfl ?_
            exact z_sub [2, 3, 4, 1, 0] rfl (ih _ _ _ _ hf)
def F_Waves_overlap (a0 : Int32) (a1 : Int32) (σ : zSt) : Option ((Int32) ⊕ String) :=
  (F_Waves_checkHouse a0 σ).bind fun q2 => match q2 with | .inr E6 => some (.inr E6) | .inl _ => (F_Waves_checkHouse a1 σ).bind fun q4 => match q4 with | .inr E5 => some (.inr E5) | .inl _ => L_Waves_overlap σ zK 0 a0 a1 (0 : Int32) (0 : Int32)
set_option maxHeartbeats 4000000 in
set_option maxRecDepth 100000 in
theorem c_Waves_overlap {l : Launch} (hst : l.stackTraces = false) {G : zLA} (hx : zxl G) {a0 : Int32} {a1 : Int32} {σ : zSt} {out : (Int32) ⊕ String} (hf : F_Waves_overlap a0 a1 σ = some out) : zX l G y_Waves_overlap (zws y_Waves_overlap b_Waves_overlap 5 (some .int)) rm_Waves_overlap [.ref (zad G 4 70), .int a0, .int a1] σ (cv_pi out σ) := by
  refine z_ofX (own := "VillageWaves") (lv := [(0, .ref (zad G 4 70)), (1, .int a0), (2, .int a1)]) (by decide +kernel) rfl rfl (Nat.le_of_ble_eq_true rfl) (fun p e s m args below meth c C X0 => ?_)
  have X : zXx l c := ⟨hst, X0⟩
  rw [F_Waves_overlap] at hf
  refine z_aload_n C d_Waves_overlap_0 0 rfl rfl ?_
  refine z_iload_n C d_Waves_overlap_1 1 rfl rfl ?_
  obtain ⟨q2, h1, hf⟩ := bd_s hf
  cases q2 with
  | inr E6 =>
    cases hf
    exact z_tXVv C kl_Waves_93 rfl (c_Waves_checkHouse X.1 hx h1) (zx4 hx 70 rfl) rfl rfl rfl (Nat.le_of_ble_eq_true rfl) ⟨(Nat.le_of_ble_eq_true rfl), (Nat.le_of_ble_eq_true rfl)⟩ ⟨(Nat.le_of_ble_eq_true rfl), (Nat.le_of_ble_eq_true rfl)⟩ d_Waves_overlap_2 X rfl (Nat.le_of_ble_eq_true rfl) (Nat.le_of_ble_eq_true rfl)
  | inl _ =>
    refine z_cXVv C kl_Waves_93 rfl (c_Waves_checkHouse X.1 hx h1) (zx4 hx 70 rfl) rfl rfl rfl (Nat.le_of_ble_eq_true rfl) ⟨(Nat.le_of_ble_eq_true rfl), (Nat.le_of_ble_eq_true rfl)⟩ ⟨(Nat.le_of_ble_eq_true rfl), (Nat.le_of_ble_eq_true rfl)⟩ d_Waves_overlap_2 ?_
    refine z_aload_n C d_Waves_overlap_5 0 rfl rfl ?_
    refine z_iload_n C d_Waves_overlap_6 2 rfl rfl ?_
    obtain ⟨q4, h3, hf⟩ := bd_s hf
    cases q4 with
    | inr E5 =>
      cases hf
      exact z_tXVv C kl_Waves_93 rfl (c_Waves_checkHouse X.1 hx h3) (zx4 hx 70 rfl) rfl rfl rfl (Nat.le_of_ble_eq_true rfl) ⟨(Nat.le_of_ble_eq_true rfl), (Nat.le_of_ble_eq_true rfl)⟩ ⟨(Nat.le_of_ble_eq_true rfl), (Nat.le_of_ble_eq_true rfl)⟩ d_Waves_overlap_7 X rfl (Nat.le_of_ble_eq_true rfl) (Nat.le_of_ble_eq_true rfl)
    | inl _ =>
      refine z_cXVv C kl_Waves_93 rfl (c_Waves_checkHouse X.1 hx h3) (zx4 hx 70 rfl) rfl rfl rfl (Nat.le_of_ble_eq_true rfl) ⟨(Nat.le_of_ble_eq_true rfl), (Nat.le_of_ble_eq_true rfl)⟩ ⟨(Nat.le_of_ble_eq_true rfl), (Nat.le_of_ble_eq_true rfl)⟩ d_Waves_overlap_7 ?_
      refine z_iconst C d_Waves_overlap_10 zki_0 ?_
      refine z_istore_n C d_Waves_overlap_11 rfl (by decide) ?_
      refine z_iconst C d_Waves_overlap_12 zki_0 ?_
      refine z_istore C d_Waves_overlap_13 (by decide) ?_
      exact z_sub [2, 3, 4, 1, 0] rfl ((w_Waves_overlap C X hx zK) _ _ _ _ hf)
abbrev rm_Waves_meanBattery : Room := { frames := 2, cells := 0, slots := 0, locals := 43 }
theorem d_Waves_meanBattery_0 : decode b_Waves_meanBattery 0 = .ok (.aload_n 0, 1) := by decide +kernel
theorem d_Waves_meanBattery_1 : decode b_Waves_meanBattery 1 = .ok (.getfield 10, 3) := by decide +kernel
theorem d_Waves_meanBattery_4 : decode b_Waves_meanBattery 4 = .ok (.getfield 68, 3) := by decide +kernel
theorem d_Waves_meanBattery_7 : decode b_Waves_meanBattery 7 = .ok (.getfield 72, 3) := by decide +kernel
theorem d_Waves_meanBattery_10 : decode b_Waves_meanBattery 10 = .ok (.istore_n 1, 1) := by decide +kernel
theorem d_Waves_meanBattery_11 : decode b_Waves_meanBattery 11 = .ok (.iload_n 1, 1) := by decide +kernel
theorem d_Waves_meanBattery_12 : decode b_Waves_meanBattery 12 = .ok (.ifCond .gt 7, 3) := by decide +kernel
theorem d_Waves_meanBattery_15 : decode b_Waves_meanBattery 15 = .ok (.ldc_w 322, 3) := by decide +kernel
theorem d_Waves_meanBattery_18 : decode b_Waves_meanBattery 18 = .ok (.freturn, 1) := by decide +kernel
theorem d_Waves_meanBattery_19 : decode b_Waves_meanBattery 19 = .ok (.aload_n 0, 1) := by decide +kernel
theorem d_Waves_meanBattery_20 : decode b_Waves_meanBattery 20 = .ok (.getfield 10, 3) := by decide +kernel
theorem d_Waves_meanBattery_23 : decode b_Waves_meanBattery 23 = .ok (.getfield 68, 3) := by decide +kernel
theorem d_Waves_meanBattery_26 : decode b_Waves_meanBattery 26 = .ok (.invokevirtual 323, 3) := by decide +kernel
theorem d_Waves_meanBattery_29 : decode b_Waves_meanBattery 29 = .ok (.i2f, 1) := by decide +kernel
theorem d_Waves_meanBattery_30 : decode b_Waves_meanBattery 30 = .ok (.iload_n 1, 1) := by decide +kernel
theorem d_Waves_meanBattery_31 : decode b_Waves_meanBattery 31 = .ok (.i2f, 1) := by decide +kernel
theorem d_Waves_meanBattery_32 : decode b_Waves_meanBattery 32 = .ok (.fdiv, 1) := by decide +kernel
theorem d_Waves_meanBattery_33 : decode b_Waves_meanBattery 33 = .ok (.freturn, 1) := by decide +kernel
def F_Waves_meanBattery (σ : zSt) : Option (UInt32) :=
  if 0 < (σ.1 0 3 0) then ((F_Homes_batterySum 0 σ).bind fun r2 => if zn32 (FP.fdiv (FP.i2f r2) (FP.i2f (σ.1 0 3 0))) = true then some (FP.fdiv (FP.i2f r2) (FP.i2f (σ.1 0 3 0))) else none) else some (3212836864 : UInt32)
set_option maxHeartbeats 4000000 in
set_option maxRecDepth 100000 in
theorem c_Waves_meanBattery {l : Launch} {G : zLA} (hx : zxl G) {σ : zSt} {r : UInt32} (hf : F_Waves_meanBattery σ = some r) : zM l G y_Waves_meanBattery (zws y_Waves_meanBattery b_Waves_meanBattery 2 (some .float)) rm_Waves_meanBattery [.ref (zad G 4 70)] σ (some (.float r)) σ := by
  refine z_ofM (own := "VillageWaves") (lv := [(0, .ref (zad G 4 70))]) (by decide +kernel) rfl rfl (Nat.le_of_ble_eq_true rfl) (fun p e s m args below meth c C => ?_)
  rw [F_Waves_meanBattery] at hf
  refine z_aload_n C d_Waves_meanBattery_0 0 rfl rfl ?_
  refine gf_Waves_10 C (zx4 hx 70 rfl) rfl rfl d_Waves_meanBattery_1 ?_
  refine gf_Waves_68 C (zlv (zxv hx 0 rfl) 0 rfl) rfl rfl d_Waves_meanBattery_4 ?_
  refine gf_Waves_72 C (zlv (zxv hx 0 rfl) 3 rfl) rfl rfl d_Waves_meanBattery_7 ?_
  refine z_istore_n C d_Waves_meanBattery_10 rfl (by decide) ?_
  refine z_iload_n C d_Waves_meanBattery_11 0 rfl rfl ?_
  refine z_if_gt (tgt := 19) C d_Waves_meanBattery_12 rfl (fun h4 => ?_) (fun h4 => ?_)
  · have hf := iff_t hf h4
    refine z_aload_n C d_Waves_meanBattery_19 1 rfl rfl ?_
    refine gf_Waves_10 C (zx4 hx 70 rfl) rfl rfl d_Waves_meanBattery_20 ?_
    refine gf_Waves_68 C (zlv (zxv hx 0 rfl) 0 rfl) rfl rfl d_Waves_meanBattery_23 ?_
    obtain ⟨r2, h1, hf⟩ := bd_s hf
    refine z_cVi C kl_Waves_323 rfl (c_Homes_batterySum (zxv hx 0 rfl) h1) (zlv (zxv hx 0 rfl) 3 rfl) rfl rfl rfl (Nat.le_of_ble_eq_true rfl) ⟨(Nat.le_of_ble_eq_true rfl), (Nat.le_of_ble_eq_true rfl)⟩ ⟨(Nat.le_of_ble_eq_true rfl), (Nat.le_of_ble_eq_true rfl)⟩ d_Waves_meanBattery_26 ?_
    refine z_i2f C d_Waves_meanBattery_29 ?_
    refine z_iload_n C d_Waves_meanBattery_30 0 rfl rfl ?_
    refine z_i2f C d_Waves_meanBattery_31 ?_
    obtain ⟨h3, hf⟩ := iff_g hf
    refine z_fdiv C d_Waves_meanBattery_32 (zn32_n h3) ?_
    cases hf
    exact z_fret C rfl (Nat.le_of_ble_eq_true rfl) (Nat.le_of_ble_eq_true rfl) d_Waves_meanBattery_33
  · have hf := iff_f hf h4
    refine z_ldcfw C d_Waves_meanBattery_15 zq752 ?_
    cases hf
    exact z_fret C rfl (Nat.le_of_ble_eq_true rfl) (Nat.le_of_ble_eq_true rfl) d_Waves_meanBattery_18
abbrev rm_Waves_reached : Room := { frames := 7, cells := 3, slots := 18, locals := 153 }
theorem d_Waves_reached_0 : decode b_Waves_reached 0 = .ok (.aload_n 0, 1) := by decide +kernel
theorem d_Waves_reached_1 : decode b_Waves_reached 1 = .ok (.iload_n 1, 1) := by decide +kernel
theorem d_Waves_reached_2 : decode b_Waves_reached 2 = .ok (.invokevirtual 238, 3) := by decide +kernel
theorem d_Waves_reached_5 : decode b_Waves_reached 5 = .ok (.iload_n 2, 1) := by decide +kernel
theorem d_Waves_reached_6 : decode b_Waves_reached 6 = .ok (.iconst 1, 1) := by decide +kernel
theorem d_Waves_reached_7 : decode b_Waves_reached 7 = .ok (.sipush 500, 3) := by decide +kernel
theorem d_Waves_reached_10 : decode b_Waves_reached 10 = .ok (.invokestatic 56, 3) := by decide +kernel
theorem d_Waves_reached_13 : decode b_Waves_reached 13 = .ok (.iload_n 3, 1) := by decide +kernel
theorem d_Waves_reached_14 : decode b_Waves_reached 14 = .ok (.iconst 0, 1) := by decide +kernel
theorem d_Waves_reached_15 : decode b_Waves_reached 15 = .ok (.iconst 2, 1) := by decide +kernel
theorem d_Waves_reached_16 : decode b_Waves_reached 16 = .ok (.invokestatic 56, 3) := by decide +kernel
theorem d_Waves_reached_19 : decode b_Waves_reached 19 = .ok (.aload_n 0, 1) := by decide +kernel
theorem d_Waves_reached_20 : decode b_Waves_reached 20 = .ok (.getfield 16, 3) := by decide +kernel
theorem d_Waves_reached_23 : decode b_Waves_reached 23 = .ok (.aload_n 0, 1) := by decide +kernel
theorem d_Waves_reached_24 : decode b_Waves_reached 24 = .ok (.getfield 10, 3) := by decide +kernel
theorem d_Waves_reached_27 : decode b_Waves_reached 27 = .ok (.invokevirtual 64, 3) := by decide +kernel
theorem d_Waves_reached_30 : decode b_Waves_reached 30 = .ok (.aload_n 0, 1) := by decide +kernel
theorem d_Waves_reached_31 : decode b_Waves_reached 31 = .ok (.getfield 16, 3) := by decide +kernel
theorem d_Waves_reached_34 : decode b_Waves_reached 34 = .ok (.iload_n 2, 1) := by decide +kernel
theorem d_Waves_reached_35 : decode b_Waves_reached 35 = .ok (.invokevirtual 304, 3) := by decide +kernel
theorem d_Waves_reached_38 : decode b_Waves_reached 38 = .ok (.iload_n 3, 1) := by decide +kernel
theorem d_Waves_reached_39 : decode b_Waves_reached 39 = .ok (.lookupswitch 61 #[(0, 25), (1, 43)], 25) := by decide +kernel
theorem d_Waves_reached_64 : decode b_Waves_reached 64 = .ok (.aload_n 0, 1) := by decide +kernel
theorem d_Waves_reached_65 : decode b_Waves_reached 65 = .ok (.getfield 16, 3) := by decide +kernel
theorem d_Waves_reached_68 : decode b_Waves_reached 68 = .ok (.getfield 145, 3) := by decide +kernel
theorem d_Waves_reached_71 : decode b_Waves_reached 71 = .ok (.getfield 259, 3) := by decide +kernel
theorem d_Waves_reached_74 : decode b_Waves_reached 74 = .ok (.iload_n 1, 1) := by decide +kernel
theorem d_Waves_reached_75 : decode b_Waves_reached 75 = .ok (.invokevirtual 123, 3) := by decide +kernel
theorem d_Waves_reached_78 : decode b_Waves_reached 78 = .ok (.invokestatic 299, 3) := by decide +kernel
theorem d_Waves_reached_81 : decode b_Waves_reached 81 = .ok (.ireturn, 1) := by decide +kernel
theorem d_Waves_reached_82 : decode b_Waves_reached 82 = .ok (.aload_n 0, 1) := by decide +kernel
theorem d_Waves_reached_83 : decode b_Waves_reached 83 = .ok (.getfield 16, 3) := by decide +kernel
theorem d_Waves_reached_86 : decode b_Waves_reached 86 = .ok (.getfield 145, 3) := by decide +kernel
theorem d_Waves_reached_89 : decode b_Waves_reached 89 = .ok (.getfield 262, 3) := by decide +kernel
theorem d_Waves_reached_92 : decode b_Waves_reached 92 = .ok (.iload_n 1, 1) := by decide +kernel
theorem d_Waves_reached_93 : decode b_Waves_reached 93 = .ok (.invokevirtual 123, 3) := by decide +kernel
theorem d_Waves_reached_96 : decode b_Waves_reached 96 = .ok (.invokestatic 299, 3) := by decide +kernel
theorem d_Waves_reached_99 : decode b_Waves_reached 99 = .ok (.ireturn, 1) := by decide +kernel
theorem d_Waves_reached_100 : decode b_Waves_reached 100 = .ok (.aload_n 0, 1) := by decide +kernel
theorem d_Waves_reached_101 : decode b_Waves_reached 101 = .ok (.getfield 16, 3) := by decide +kernel
theorem d_Waves_reached_104 : decode b_Waves_reached 104 = .ok (.getfield 145, 3) := by decide +kernel
theorem d_Waves_reached_107 : decode b_Waves_reached 107 = .ok (.iload_n 1, 1) := by decide +kernel
theorem d_Waves_reached_108 : decode b_Waves_reached 108 = .ok (.invokevirtual 265, 3) := by decide +kernel
theorem d_Waves_reached_111 : decode b_Waves_reached 111 = .ok (.invokestatic 299, 3) := by decide +kernel
theorem d_Waves_reached_114 : decode b_Waves_reached 114 = .ok (.ireturn, 1) := by decide +kernel
def F_Waves_reached (a0 : Int32) (a1 : Int32) (a2 : Int32) (σ : zSt) : Option ((Int32 × zSt) ⊕ String) :=
  (F_Waves_checkNews a0 σ).bind fun q2 => match q2 with | .inr E27 => some (.inr E27) | .inl _ => (F_Waves_checkWithin a1 (1 : Int32) (500 : Int32) σ).bind fun q4 => match q4 with | .inr E26 => some (.inr E26) | .inl _ => (F_Waves_checkWithin a2 (0 : Int32) (2 : Int32) σ).bind fun q6 => match q6 with | .inr E25 => some (.inr E25) | .inl _ => (F_Village_copyFrom 1 0 σ).bind fun σ8 => (F_Village_pass 1 a1 σ8).bind fun σ10 => if a2 = (0 : Int32) then ((F_Row_get 1 37 a0 σ10).bind fun r13 => (F_Integer_bitCount r13).bind fun r15 => some (.inl (r15, σ10))) else (if a2 = (1 : Int32) then ((F_Row_get 1 39 a0 σ10).bind fun r18 => (F_Integer_bitCount r18).bind fun r20 => some (.inl (r20, σ10))) else ((F_Tidings_uncorrectedHouses 1 a0 σ10).bind fun r22 => (F_Integer_bitCount r22).bind fun r24 => some (.inl (r24, σ10))))
set_option maxHeartbeats 4000000 in
set_option maxRecDepth 100000 in
theorem c_Waves_reached {l : Launch} (hst : l.stackTraces = false) {G : zLA} (hx : zxl G) {a0 : Int32} {a1 : Int32} {a2 : Int32} {σ : zSt} {out : (Int32 × zSt) ⊕ String} (hf : F_Waves_reached a0 a1 a2 σ = some out) : zX l G y_Waves_reached (zws y_Waves_reached b_Waves_reached 4 (some .int)) rm_Waves_reached [.ref (zad G 4 70), .int a0, .int a1, .int a2] σ (cv_wi out σ) := by
  refine z_ofX (own := "VillageWaves") (lv := [(0, .ref (zad G 4 70)), (1, .int a0), (2, .int a1), (3, .int a2)]) (by decide +kernel) rfl rfl (Nat.le_of_ble_eq_true rfl) (fun p e s m args below meth c C X0 => ?_)
  have X : zXx l c := ⟨hst, X0⟩
  rw [F_Waves_reached] at hf
  refine z_aload_n C d_Waves_reached_0 0 rfl rfl ?_
  refine z_iload_n C d_Waves_reached_1 1 rfl rfl ?_
  obtain ⟨q2, h1, hf⟩ := bd_s hf
  cases q2 with
  | inr E27 =>
    cases hf
    exact z_tXVv C kl_Waves_238 rfl (c_Waves_checkNews X.1 hx h1) (zx4 hx 70 rfl) rfl rfl rfl (Nat.le_of_ble_eq_true rfl) ⟨(Nat.le_of_ble_eq_true rfl), (Nat.le_of_ble_eq_true rfl)⟩ ⟨(Nat.le_of_ble_eq_true rfl), (Nat.le_of_ble_eq_true rfl)⟩ d_Waves_reached_2 X rfl (Nat.le_of_ble_eq_true rfl) (Nat.le_of_ble_eq_true rfl)
  | inl _ =>
    refine z_cXVv C kl_Waves_238 rfl (c_Waves_checkNews X.1 hx h1) (zx4 hx 70 rfl) rfl rfl rfl (Nat.le_of_ble_eq_true rfl) ⟨(Nat.le_of_ble_eq_true rfl), (Nat.le_of_ble_eq_true rfl)⟩ ⟨(Nat.le_of_ble_eq_true rfl), (Nat.le_of_ble_eq_true rfl)⟩ d_Waves_reached_2 ?_
    refine z_iload_n C d_Waves_reached_5 2 rfl rfl ?_
    refine z_iconst C d_Waves_reached_6 zki_1 ?_
    refine z_sipush C d_Waves_reached_7 zks_500 ?_
    obtain ⟨q4, h3, hf⟩ := bd_s hf
    cases q4 with
    | inr E26 =>
      cases hf
      exact z_tXSv C kl_Waves_56 (c_Waves_checkWithin X.1 h3) rfl rfl (Nat.le_of_ble_eq_true rfl) ⟨(Nat.le_of_ble_eq_true rfl), (Nat.le_of_ble_eq_true rfl)⟩ ⟨(Nat.le_of_ble_eq_true rfl), (Nat.le_of_ble_eq_true rfl)⟩ d_Waves_reached_10 X rfl (Nat.le_of_ble_eq_true rfl) (Nat.le_of_ble_eq_true rfl)
    | inl _ =>
      refine z_cXSv C kl_Waves_56 (c_Waves_checkWithin X.1 h3) rfl rfl (Nat.le_of_ble_eq_true rfl) ⟨(Nat.le_of_ble_eq_true rfl), (Nat.le_of_ble_eq_true rfl)⟩ ⟨(Nat.le_of_ble_eq_true rfl), (Nat.le_of_ble_eq_true rfl)⟩ d_Waves_reached_10 ?_
      refine z_iload_n C d_Waves_reached_13 3 rfl rfl ?_
      refine z_iconst C d_Waves_reached_14 zki_0 ?_
      refine z_iconst C d_Waves_reached_15 zki_2 ?_
      obtain ⟨q6, h5, hf⟩ := bd_s hf
      cases q6 with
      | inr E25 =>
        cases hf
        exact z_tXSv C kl_Waves_56 (c_Waves_checkWithin X.1 h5) rfl rfl (Nat.le_of_ble_eq_true rfl) ⟨(Nat.le_of_ble_eq_true rfl), (Nat.le_of_ble_eq_true rfl)⟩ ⟨(Nat.le_of_ble_eq_true rfl), (Nat.le_of_ble_eq_true rfl)⟩ d_Waves_reached_16 X rfl (Nat.le_of_ble_eq_true rfl) (Nat.le_of_ble_eq_true rfl)
      | inl _ =>
        refine z_cXSv C kl_Waves_56 (c_Waves_checkWithin X.1 h5) rfl rfl (Nat.le_of_ble_eq_true rfl) ⟨(Nat.le_of_ble_eq_true rfl), (Nat.le_of_ble_eq_true rfl)⟩ ⟨(Nat.le_of_ble_eq_true rfl), (Nat.le_of_ble_eq_true rfl)⟩ d_Waves_reached_16 ?_
        refine z_aload_n C d_Waves_reached_19 0 rfl rfl ?_
        refine gf_Waves_16 C (zx4 hx 70 rfl) rfl rfl d_Waves_reached_20 ?_
        refine z_aload_n C d_Waves_reached_23 0 rfl rfl ?_
        refine gf_Waves_10 C (zx4 hx 70 rfl) rfl rfl d_Waves_reached_24 ?_
        obtain ⟨σ8, h7, hf⟩ := bd_s hf
        refine z_cVv C kl_Waves_64 rfl (c_Village_copyFrom (zxv hx 1 rfl) (zxv hx 0 rfl) h7) (zlv (zxv hx 1 rfl) 0 rfl) rfl rfl rfl (Nat.le_of_ble_eq_true rfl) ⟨(Nat.le_of_ble_eq_true rfl), (Nat.le_of_ble_eq_true rfl)⟩ ⟨(Nat.le_of_ble_eq_true rfl), (Nat.le_of_ble_eq_true rfl)⟩ d_Waves_reached_27 ?_
        refine z_aload_n C d_Waves_reached_30 0 rfl rfl ?_
        refine gf_Waves_16 C (zx4 hx 70 rfl) rfl rfl d_Waves_reached_31 ?_
        refine z_iload_n C d_Waves_reached_34 2 rfl rfl ?_
        obtain ⟨σ10, h9, hf⟩ := bd_s hf
        refine z_cVv C kl_Waves_304 rfl (c_Village_pass (zxv hx 1 rfl) h9) (zlv (zxv hx 1 rfl) 0 rfl) rfl rfl rfl (Nat.le_of_ble_eq_true rfl) ⟨(Nat.le_of_ble_eq_true rfl), (Nat.le_of_ble_eq_true rfl)⟩ ⟨(Nat.le_of_ble_eq_true rfl), (Nat.le_of_ble_eq_true rfl)⟩ d_Waves_reached_35 ?_
        refine z_iload_n C d_Waves_reached_38 3 rfl rfl ?_
        by_cases h11 : a2 = (0 : Int32)
        · have hf := iff_t hf h11
          refine z_look (off := 25) (tgt := 64) C d_Waves_reached_39 (by decide) (by rw [h11]; decide) rfl ?_
          refine z_aload_n C d_Waves_reached_64 0 rfl rfl ?_
          refine gf_Waves_16 C (zx4 hx 70 rfl) rfl rfl d_Waves_reached_65 ?_
          refine gf_Waves_145 C (zlv (zxv hx 1 rfl) 0 rfl) rfl rfl d_Waves_reached_68 ?_
          refine gf_Waves_259 C (zlv (zxv hx 1 rfl) 24 rfl) rfl rfl d_Waves_reached_71 ?_
          refine z_iload_n C d_Waves_reached_74 1 rfl rfl ?_
          obtain ⟨r13, h12, hf⟩ := bd_s hf
          refine z_cVi C kl_Waves_123 rfl (c_Row_get (zrow_v (zxv hx 1 rfl) 37 rfl) h12) (zlv (zxv hx 1 rfl) 37 rfl) rfl rfl rfl (Nat.le_of_ble_eq_true rfl) ⟨(Nat.le_of_ble_eq_true rfl), (Nat.le_of_ble_eq_true rfl)⟩ ⟨(Nat.le_of_ble_eq_true rfl), (Nat.le_of_ble_eq_true rfl)⟩ d_Waves_reached_75 ?_
          obtain ⟨r15, h14, hf⟩ := bd_s hf
          refine z_cSi C kl_Waves_299 (c_Integer_bitCount h14) rfl rfl (Nat.le_of_ble_eq_true rfl) ⟨(Nat.le_of_ble_eq_true rfl), (Nat.le_of_ble_eq_true rfl)⟩ ⟨(Nat.le_of_ble_eq_true rfl), (Nat.le_of_ble_eq_true rfl)⟩ d_Waves_reached_78 ?_
          cases hf
          refine z_xret rfl ?_
          exact z_iret C rfl (Nat.le_of_ble_eq_true rfl) (Nat.le_of_ble_eq_true rfl) d_Waves_reached_81
        · have hf := iff_f hf h11
          by_cases h16 : a2 = (1 : Int32)
          · have hf := iff_t hf h16
            refine z_look (off := 43) (tgt := 82) C d_Waves_reached_39 (by decide) (by rw [h16]; decide) rfl ?_
            refine z_aload_n C d_Waves_reached_82 0 rfl rfl ?_
            refine gf_Waves_16 C (zx4 hx 70 rfl) rfl rfl d_Waves_reached_83 ?_
            refine gf_Waves_145 C (zlv (zxv hx 1 rfl) 0 rfl) rfl rfl d_Waves_reached_86 ?_
            refine gf_Waves_262 C (zlv (zxv hx 1 rfl) 24 rfl) rfl rfl d_Waves_reached_89 ?_
            refine z_iload_n C d_Waves_reached_92 1 rfl rfl ?_
            obtain ⟨r18, h17, hf⟩ := bd_s hf
            refine z_cVi C kl_Waves_123 rfl (c_Row_get (zrow_v (zxv hx 1 rfl) 39 rfl) h17) (zlv (zxv hx 1 rfl) 39 rfl) rfl rfl rfl (Nat.le_of_ble_eq_true rfl) ⟨(Nat.le_of_ble_eq_true rfl), (Nat.le_of_ble_eq_true rfl)⟩ ⟨(Nat.le_of_ble_eq_true rfl), (Nat.le_of_ble_eq_true rfl)⟩ d_Waves_reached_93 ?_
            obtain ⟨r20, h19, hf⟩ := bd_s hf
            refine z_cSi C kl_Waves_299 (c_Integer_bitCount h19) rfl rfl (Nat.le_of_ble_eq_true rfl) ⟨(Nat.le_of_ble_eq_true rfl), (Nat.le_of_ble_eq_true rfl)⟩ ⟨(Nat.le_of_ble_eq_true rfl), (Nat.le_of_ble_eq_true rfl)⟩ d_Waves_reached_96 ?_
            cases hf
            refine z_xret rfl ?_
            exact z_iret C rfl (Nat.le_of_ble_eq_true rfl) (Nat.le_of_ble_eq_true rfl) d_Waves_reached_99
          · have hf := iff_f hf h16
            refine z_look (off := 61) (tgt := 100) C d_Waves_reached_39 (by decide) (zlook_out h11 h16) rfl ?_
            refine z_aload_n C d_Waves_reached_100 0 rfl rfl ?_
            refine gf_Waves_16 C (zx4 hx 70 rfl) rfl rfl d_Waves_reached_101 ?_
            refine gf_Waves_145 C (zlv (zxv hx 1 rfl) 0 rfl) rfl rfl d_Waves_reached_104 ?_
            refine z_iload_n C d_Waves_reached_107 1 rfl rfl ?_
            obtain ⟨r22, h21, hf⟩ := bd_s hf
            refine z_cVi C kl_Waves_265 rfl (c_Tidings_uncorrectedHouses (zxv hx 1 rfl) h21) (zlv (zxv hx 1 rfl) 24 rfl) rfl rfl rfl (Nat.le_of_ble_eq_true rfl) ⟨(Nat.le_of_ble_eq_true rfl), (Nat.le_of_ble_eq_true rfl)⟩ ⟨(Nat.le_of_ble_eq_true rfl), (Nat.le_of_ble_eq_true rfl)⟩ d_Waves_reached_108 ?_
            obtain ⟨r24, h23, hf⟩ := bd_s hf
            refine z_cSi C kl_Waves_299 (c_Integer_bitCount h23) rfl rfl (Nat.le_of_ble_eq_true rfl) ⟨(Nat.le_of_ble_eq_true rfl), (Nat.le_of_ble_eq_true rfl)⟩ ⟨(Nat.le_of_ble_eq_true rfl), (Nat.le_of_ble_eq_true rfl)⟩ d_Waves_reached_111 ?_
            cases hf
            refine z_xret rfl ?_
            exact z_iret C rfl (Nat.le_of_ble_eq_true rfl) (Nat.le_of_ble_eq_true rfl) d_Waves_reached_114
abbrev rm_Waves_correctedIn : Room := { frames := 7, cells := 2, slots := 12, locals := 153 }
theorem d_Waves_correctedIn_0 : decode b_Waves_correctedIn 0 = .ok (.aload_n 0, 1) := by decide +kernel
theorem d_Waves_correctedIn_1 : decode b_Waves_correctedIn 1 = .ok (.iload_n 1, 1) := by decide +kernel
theorem d_Waves_correctedIn_2 : decode b_Waves_correctedIn 2 = .ok (.invokevirtual 238, 3) := by decide +kernel
theorem d_Waves_correctedIn_5 : decode b_Waves_correctedIn 5 = .ok (.iload_n 2, 1) := by decide +kernel
theorem d_Waves_correctedIn_6 : decode b_Waves_correctedIn 6 = .ok (.iconst 1, 1) := by decide +kernel
theorem d_Waves_correctedIn_7 : decode b_Waves_correctedIn 7 = .ok (.sipush 500, 3) := by decide +kernel
theorem d_Waves_correctedIn_10 : decode b_Waves_correctedIn 10 = .ok (.invokestatic 56, 3) := by decide +kernel
theorem d_Waves_correctedIn_13 : decode b_Waves_correctedIn 13 = .ok (.aload_n 0, 1) := by decide +kernel
theorem d_Waves_correctedIn_14 : decode b_Waves_correctedIn 14 = .ok (.getfield 10, 3) := by decide +kernel
theorem d_Waves_correctedIn_17 : decode b_Waves_correctedIn 17 = .ok (.getfield 145, 3) := by decide +kernel
theorem d_Waves_correctedIn_20 : decode b_Waves_correctedIn 20 = .ok (.iload_n 1, 1) := by decide +kernel
theorem d_Waves_correctedIn_21 : decode b_Waves_correctedIn 21 = .ok (.invokevirtual 292, 3) := by decide +kernel
theorem d_Waves_correctedIn_24 : decode b_Waves_correctedIn 24 = .ok (.ifCond .ne 5, 3) := by decide +kernel
theorem d_Waves_correctedIn_27 : decode b_Waves_correctedIn 27 = .ok (.iconst (-1), 1) := by decide +kernel
theorem d_Waves_correctedIn_28 : decode b_Waves_correctedIn 28 = .ok (.ireturn, 1) := by decide +kernel
theorem d_Waves_correctedIn_29 : decode b_Waves_correctedIn 29 = .ok (.aload_n 0, 1) := by decide +kernel
theorem d_Waves_correctedIn_30 : decode b_Waves_correctedIn 30 = .ok (.getfield 16, 3) := by decide +kernel
theorem d_Waves_correctedIn_33 : decode b_Waves_correctedIn 33 = .ok (.aload_n 0, 1) := by decide +kernel
theorem d_Waves_correctedIn_34 : decode b_Waves_correctedIn 34 = .ok (.getfield 10, 3) := by decide +kernel
theorem d_Waves_correctedIn_37 : decode b_Waves_correctedIn 37 = .ok (.invokevirtual 64, 3) := by decide +kernel
theorem d_Waves_correctedIn_40 : decode b_Waves_correctedIn 40 = .ok (.iconst 0, 1) := by decide +kernel
theorem d_Waves_correctedIn_41 : decode b_Waves_correctedIn 41 = .ok (.istore_n 3, 1) := by decide +kernel
theorem d_Waves_correctedIn_42 : decode b_Waves_correctedIn 42 = .ok (.iload_n 3, 1) := by decide +kernel
theorem d_Waves_correctedIn_43 : decode b_Waves_correctedIn 43 = .ok (.iload_n 2, 1) := by decide +kernel
theorem d_Waves_correctedIn_44 : decode b_Waves_correctedIn 44 = .ok (.if_icmp .gt 32, 3) := by decide +kernel
theorem d_Waves_correctedIn_47 : decode b_Waves_correctedIn 47 = .ok (.aload_n 0, 1) := by decide +kernel
theorem d_Waves_correctedIn_48 : decode b_Waves_correctedIn 48 = .ok (.getfield 16, 3) := by decide +kernel
theorem d_Waves_correctedIn_51 : decode b_Waves_correctedIn 51 = .ok (.getfield 145, 3) := by decide +kernel
theorem d_Waves_correctedIn_54 : decode b_Waves_correctedIn 54 = .ok (.iload_n 1, 1) := by decide +kernel
theorem d_Waves_correctedIn_55 : decode b_Waves_correctedIn 55 = .ok (.invokevirtual 265, 3) := by decide +kernel
theorem d_Waves_correctedIn_58 : decode b_Waves_correctedIn 58 = .ok (.ifCond .ne 5, 3) := by decide +kernel
theorem d_Waves_correctedIn_61 : decode b_Waves_correctedIn 61 = .ok (.iload_n 3, 1) := by decide +kernel
theorem d_Waves_correctedIn_62 : decode b_Waves_correctedIn 62 = .ok (.ireturn, 1) := by decide +kernel
theorem d_Waves_correctedIn_63 : decode b_Waves_correctedIn 63 = .ok (.aload_n 0, 1) := by decide +kernel
theorem d_Waves_correctedIn_64 : decode b_Waves_correctedIn 64 = .ok (.getfield 16, 3) := by decide +kernel
theorem d_Waves_correctedIn_67 : decode b_Waves_correctedIn 67 = .ok (.invokevirtual 326, 3) := by decide +kernel
theorem d_Waves_correctedIn_70 : decode b_Waves_correctedIn 70 = .ok (.iinc 3 1, 3) := by decide +kernel
theorem d_Waves_correctedIn_73 : decode b_Waves_correctedIn 73 = .ok (.goto (-31), 3) := by decide +kernel
theorem d_Waves_correctedIn_76 : decode b_Waves_correctedIn 76 = .ok (.iconst (-1), 1) := by decide +kernel
theorem d_Waves_correctedIn_77 : decode b_Waves_correctedIn 77 = .ok (.ireturn, 1) := by decide +kernel
def L_Waves_correctedIn : Nat → Nat → Int32 → Int32 → Int32 → zSt → Option ((Int32 × zSt) ⊕ String)
  | 0, _, _, _, _, _ => none
  | n + 1, 0, x1, x2, x3, σ => if x2 < x3 then some (.inl ((-1 : Int32), σ)) else ((F_Tidings_uncorrectedHouses 1 x1 σ).bind fun r13 => if r13 = 0 then some (.inl (x3, σ)) else ((F_Village_minute 1 σ).bind fun σ15 => L_Waves_correctedIn n 0 x1 x2 (x3 + (1 : Int32)) σ15))
  | _ + 1, _, _, _, _, _ => none
theorem e_Waves_correctedIn_0 (n : Nat) (x1 : Int32) (x2 : Int32) (x3 : Int32) (σ : zSt) : L_Waves_correctedIn (n + 1) 0 x1 x2 x3 σ = (if x2 < x3 then some (.inl ((-1 : Int32), σ)) else ((F_Tidings_uncorrectedHouses 1 x1 σ).bind fun r13 => if r13 = 0 then some (.inl (x3, σ)) else ((F_Village_minute 1 σ).bind fun σ15 => L_Waves_correctedIn n 0 x1 x2 (x3 + (1 : Int32)) σ15))) := rfl
set_option maxHeartbeats 4000000 in
set_option maxRecDepth 100000 in
theorem w_Waves_correctedIn {l : Launch} {G : zLA} {p : Program} {e : Env} {s : State} {m : MethodId} {args : Array Value} {below : List Frame} {meth : Method} {c : Code} (C : zCx G p s m args meth c "VillageWaves" b_Waves_correctedIn 4 (some .int)) (X : zXx l c) (hx : zxl G) {σ0 : zSt} {out : (Int32 × zSt) ⊕ String} : ∀ n : Nat, (∀ (x1 : Int32) (x2 : Int32) (x3 : Int32) (σ : zSt), L_Waves_correctedIn n 0 x1 x2 x3 σ = some out → zWV G p l e rm_Waves_correctedIn s m args below meth c 4 2 12 (zXQ G below args s rm_Waves_correctedIn (cv_wi out σ0) σ0) 42 [(0, .ref (zad G 4 70)), (1, .int x1), (2, .int x2), (3, .int x3)] [] σ) := by
  intro n
  induction n with
  | zero => exact fun _ _ _ _ hf => (by cases hf)
  | succ n ih =>
    refine ?_
    · intro x1 x2 x3 σ hf
      rw [e_Waves_correctedIn_0] at hf
      refine z_iload_n C d_Waves_correctedIn_42 3 rfl rfl ?_
      refine z_iload_n C d_Waves_correctedIn_43 2 rfl rfl ?_
      refine z_icmp_gt (tgt := 76) C d_Waves_correctedIn_44 rfl (fun h17 => ?_) (fun h17 => ?_)
      · have hf := iff_t hf h17
        refine z_iconst C d_Waves_correctedIn_76 zki_m1 ?_
        cases hf
        refine z_xret rfl ?_
        exact z_iret C rfl (Nat.le_of_ble_eq_true rfl) (Nat.le_of_ble_eq_true rfl) d_Waves_correctedIn_77
      · have hf := iff_f hf h17
        refine z_aload_n C d_Waves_correctedIn_47 0 rfl rfl ?_
        refine gf_Waves_16 C (zx4 hx 70 rfl) rfl rfl d_Waves_correctedIn_48 ?_
        refine gf_Waves_145 C (zlv (zxv hx 1 rfl) 0 rfl) rfl rfl d_Waves_correctedIn_51 ?_
        refine z_iload_n C d_Waves_correctedIn_54 1 rfl rfl ?_
        obtain ⟨r13, h12, hf⟩ := bd_s hf
        refine z_cVi C kl_Waves_265 rfl (c_Tidings_uncorrectedHouses (zxv hx 1 rfl) h12) (zlv (zxv hx 1 rfl) 24 rfl) rfl rfl rfl (Nat.le_of_ble_eq_true rfl) ⟨(Nat.le_of_ble_eq_true rfl), (Nat.le_of_ble_eq_true rfl)⟩ ⟨(Nat.le_of_ble_eq_true rfl), (Nat.le_of_ble_eq_true rfl)⟩ d_Waves_correctedIn_55 ?_
        refine z_if_ne (tgt := 63) C d_Waves_correctedIn_58 rfl (fun h16 => ?_) (fun h16 => ?_)
        · have hf := iff_f hf h16
          refine z_aload_n C d_Waves_correctedIn_63 0 rfl rfl ?_
          refine gf_Waves_16 C (zx4 hx 70 rfl) rfl rfl d_Waves_correctedIn_64 ?_
          obtain ⟨σ15, h14, hf⟩ := bd_s hf
          refine z_cVv C kl_Waves_326 rfl (c_Village_minute (zxv hx 1 rfl) h14) (zlv (zxv hx 1 rfl) 0 rfl) rfl rfl rfl (Nat.le_of_ble_eq_true rfl) ⟨(Nat.le_of_ble_eq_true rfl), (Nat.le_of_ble_eq_true rfl)⟩ ⟨(Nat.le_of_ble_eq_true rfl), (Nat.le_of_ble_eq_true rfl)⟩ d_Waves_correctedIn_67 ?_
          refine z_iinc C d_Waves_correctedIn_70 3 rfl zki_1 (by decide) ?_
          refine z_goto (tgt := 42) C d_Waves_correctedIn_73 rfl ?_
          exact z_sub [1, 2, 3, 0] rfl (ih _ _ _ _ hf)
        · have hf := iff_t hf h16
          refine z_iload_n C d_Waves_correctedIn_61 3 rfl rfl ?_
          cases hf
          refine z_xret rfl ?_
          exact z_iret C rfl (Nat.le_of_ble_eq_true rfl) (Nat.le_of_ble_eq_true rfl) d_Waves_correctedIn_62
def F_Waves_correctedIn (a0 : Int32) (a1 : Int32) (σ : zSt) : Option ((Int32 × zSt) ⊕ String) :=
  (F_Waves_checkNews a0 σ).bind fun q2 => match q2 with | .inr E11 => some (.inr E11) | .inl _ => (F_Waves_checkWithin a1 (1 : Int32) (500 : Int32) σ).bind fun q4 => match q4 with | .inr E10 => some (.inr E10) | .inl _ => (F_Tidings_isCorrected 0 a0 σ).bind fun r6 => if r6 = 0 then some (.inl ((-1 : Int32), σ)) else ((F_Village_copyFrom 1 0 σ).bind fun σ8 => L_Waves_correctedIn zK 0 a0 a1 (0 : Int32) σ8)
set_option maxHeartbeats 4000000 in
set_option maxRecDepth 100000 in
theorem c_Waves_correctedIn {l : Launch} (hst : l.stackTraces = false) {G : zLA} (hx : zxl G) {a0 : Int32} {a1 : Int32} {σ : zSt} {out : (Int32 × zSt) ⊕ String} (hf : F_Waves_correctedIn a0 a1 σ = some out) : zX l G y_Waves_correctedIn (zws y_Waves_correctedIn b_Waves_correctedIn 4 (some .int)) rm_Waves_correctedIn [.ref (zad G 4 70), .int a0, .int a1] σ (cv_wi out σ) := by
  refine z_ofX (own := "VillageWaves") (lv := [(0, .ref (zad G 4 70)), (1, .int a0), (2, .int a1)]) (by decide +kernel) rfl rfl (Nat.le_of_ble_eq_true rfl) (fun p e s m args below meth c C X0 => ?_)
  have X : zXx l c := ⟨hst, X0⟩
  rw [F_Waves_correctedIn] at hf
  refine z_aload_n C d_Waves_correctedIn_0 0 rfl rfl ?_
  refine z_iload_n C d_Waves_correctedIn_1 1 rfl rfl ?_
  obtain ⟨q2, h1, hf⟩ := bd_s hf
  cases q2 with
  | inr E11 =>
    cases hf
    exact z_tXVv C kl_Waves_238 rfl (c_Waves_checkNews X.1 hx h1) (zx4 hx 70 rfl) rfl rfl rfl (Nat.le_of_ble_eq_true rfl) ⟨(Nat.le_of_ble_eq_true rfl), (Nat.le_of_ble_eq_true rfl)⟩ ⟨(Nat.le_of_ble_eq_true rfl), (Nat.le_of_ble_eq_true rfl)⟩ d_Waves_correctedIn_2 X rfl (Nat.le_of_ble_eq_true rfl) (Nat.le_of_ble_eq_true rfl)
  | inl _ =>
    refine z_cXVv C kl_Waves_238 rfl (c_Waves_checkNews X.1 hx h1) (zx4 hx 70 rfl) rfl rfl rfl (Nat.le_of_ble_eq_true rfl) ⟨(Nat.le_of_ble_eq_true rfl), (Nat.le_of_ble_eq_true rfl)⟩ ⟨(Nat.le_of_ble_eq_true rfl), (Nat.le_of_ble_eq_true rfl)⟩ d_Waves_correctedIn_2 ?_
    refine z_iload_n C d_Waves_correctedIn_5 2 rfl rfl ?_
    refine z_iconst C d_Waves_correctedIn_6 zki_1 ?_
    refine z_sipush C d_Waves_correctedIn_7 zks_500 ?_
    obtain ⟨q4, h3, hf⟩ := bd_s hf
    cases q4 with
    | inr E10 =>
      cases hf
      exact z_tXSv C kl_Waves_56 (c_Waves_checkWithin X.1 h3) rfl rfl (Nat.le_of_ble_eq_true rfl) ⟨(Nat.le_of_ble_eq_true rfl), (Nat.le_of_ble_eq_true rfl)⟩ ⟨(Nat.le_of_ble_eq_true rfl), (Nat.le_of_ble_eq_true rfl)⟩ d_Waves_correctedIn_10 X rfl (Nat.le_of_ble_eq_true rfl) (Nat.le_of_ble_eq_true rfl)
    | inl _ =>
      refine z_cXSv C kl_Waves_56 (c_Waves_checkWithin X.1 h3) rfl rfl (Nat.le_of_ble_eq_true rfl) ⟨(Nat.le_of_ble_eq_true rfl), (Nat.le_of_ble_eq_true rfl)⟩ ⟨(Nat.le_of_ble_eq_true rfl), (Nat.le_of_ble_eq_true rfl)⟩ d_Waves_correctedIn_10 ?_
      refine z_aload_n C d_Waves_correctedIn_13 0 rfl rfl ?_
      refine gf_Waves_10 C (zx4 hx 70 rfl) rfl rfl d_Waves_correctedIn_14 ?_
      refine gf_Waves_145 C (zlv (zxv hx 0 rfl) 0 rfl) rfl rfl d_Waves_correctedIn_17 ?_
      refine z_iload_n C d_Waves_correctedIn_20 1 rfl rfl ?_
      obtain ⟨r6, h5, hf⟩ := bd_s hf
      refine z_cVi C kl_Waves_292 rfl (c_Tidings_isCorrected (zxv hx 0 rfl) h5) (zlv (zxv hx 0 rfl) 24 rfl) rfl rfl rfl (Nat.le_of_ble_eq_true rfl) ⟨(Nat.le_of_ble_eq_true rfl), (Nat.le_of_ble_eq_true rfl)⟩ ⟨(Nat.le_of_ble_eq_true rfl), (Nat.le_of_ble_eq_true rfl)⟩ d_Waves_correctedIn_21 ?_
      refine z_if_ne (tgt := 29) C d_Waves_correctedIn_24 rfl (fun h9 => ?_) (fun h9 => ?_)
      · have hf := iff_f hf h9
        refine z_aload_n C d_Waves_correctedIn_29 0 rfl rfl ?_
        refine gf_Waves_16 C (zx4 hx 70 rfl) rfl rfl d_Waves_correctedIn_30 ?_
        refine z_aload_n C d_Waves_correctedIn_33 0 rfl rfl ?_
        refine gf_Waves_10 C (zx4 hx 70 rfl) rfl rfl d_Waves_correctedIn_34 ?_
        obtain ⟨σ8, h7, hf⟩ := bd_s hf
        refine z_cVv C kl_Waves_64 rfl (c_Village_copyFrom (zxv hx 1 rfl) (zxv hx 0 rfl) h7) (zlv (zxv hx 1 rfl) 0 rfl) rfl rfl rfl (Nat.le_of_ble_eq_true rfl) ⟨(Nat.le_of_ble_eq_true rfl), (Nat.le_of_ble_eq_true rfl)⟩ ⟨(Nat.le_of_ble_eq_true rfl), (Nat.le_of_ble_eq_true rfl)⟩ d_Waves_correctedIn_37 ?_
        refine z_iconst C d_Waves_correctedIn_40 zki_0 ?_
        refine z_istore_n C d_Waves_correctedIn_41 rfl (by decide) ?_
        exact z_sub [1, 2, 3, 0] rfl ((w_Waves_correctedIn C X hx zK) _ _ _ _ hf)
      · have hf := iff_t hf h9
        refine z_iconst C d_Waves_correctedIn_27 zki_m1 ?_
        cases hf
        refine z_xret rfl ?_
        exact z_iret C rfl (Nat.le_of_ble_eq_true rfl) (Nat.le_of_ble_eq_true rfl) d_Waves_correctedIn_28
abbrev rm_Waves_sizesOf : Room := { frames := 1, cells := 0, slots := 0, locals := 21 }
theorem d_Waves_sizesOf_0 : decode b_Waves_sizesOf 0 = .ok (.iconst 0, 1) := by decide +kernel
theorem d_Waves_sizesOf_1 : decode b_Waves_sizesOf 1 = .ok (.istore_n 3, 1) := by decide +kernel
theorem d_Waves_sizesOf_2 : decode b_Waves_sizesOf 2 = .ok (.iconst 0, 1) := by decide +kernel
theorem d_Waves_sizesOf_3 : decode b_Waves_sizesOf 3 = .ok (.istore 4, 2) := by decide +kernel
theorem d_Waves_sizesOf_5 : decode b_Waves_sizesOf 5 = .ok (.iload 4, 2) := by decide +kernel
theorem d_Waves_sizesOf_7 : decode b_Waves_sizesOf 7 = .ok (.aload_n 0, 1) := by decide +kernel
theorem d_Waves_sizesOf_8 : decode b_Waves_sizesOf 8 = .ok (.getfield 10, 3) := by decide +kernel
theorem d_Waves_sizesOf_11 : decode b_Waves_sizesOf 11 = .ok (.getfield 145, 3) := by decide +kernel
theorem d_Waves_sizesOf_14 : decode b_Waves_sizesOf 14 = .ok (.getfield 149, 3) := by decide +kernel
theorem d_Waves_sizesOf_17 : decode b_Waves_sizesOf 17 = .ok (.if_icmp .ge 31, 3) := by decide +kernel
theorem d_Waves_sizesOf_20 : decode b_Waves_sizesOf 20 = .ok (.iload_n 3, 1) := by decide +kernel
theorem d_Waves_sizesOf_21 : decode b_Waves_sizesOf 21 = .ok (.aload_n 1, 1) := by decide +kernel
theorem d_Waves_sizesOf_22 : decode b_Waves_sizesOf 22 = .ok (.iload 4, 2) := by decide +kernel
theorem d_Waves_sizesOf_24 : decode b_Waves_sizesOf 24 = .ok (.invokevirtual 123, 3) := by decide +kernel
theorem d_Waves_sizesOf_27 : decode b_Waves_sizesOf 27 = .ok (.invokestatic 299, 3) := by decide +kernel
theorem d_Waves_sizesOf_30 : decode b_Waves_sizesOf 30 = .ok (.aload_n 2, 1) := by decide +kernel
theorem d_Waves_sizesOf_31 : decode b_Waves_sizesOf 31 = .ok (.iload 4, 2) := by decide +kernel
theorem d_Waves_sizesOf_33 : decode b_Waves_sizesOf 33 = .ok (.invokevirtual 123, 3) := by decide +kernel
theorem d_Waves_sizesOf_36 : decode b_Waves_sizesOf 36 = .ok (.invokestatic 299, 3) := by decide +kernel
theorem d_Waves_sizesOf_39 : decode b_Waves_sizesOf 39 = .ok (.isub, 1) := by decide +kernel
theorem d_Waves_sizesOf_40 : decode b_Waves_sizesOf 40 = .ok (.iadd, 1) := by decide +kernel
theorem d_Waves_sizesOf_41 : decode b_Waves_sizesOf 41 = .ok (.istore_n 3, 1) := by decide +kernel
theorem d_Waves_sizesOf_42 : decode b_Waves_sizesOf 42 = .ok (.iinc 4 1, 3) := by decide +kernel
theorem d_Waves_sizesOf_45 : decode b_Waves_sizesOf 45 = .ok (.goto (-40), 3) := by decide +kernel
theorem d_Waves_sizesOf_48 : decode b_Waves_sizesOf 48 = .ok (.iload_n 3, 1) := by decide +kernel
theorem d_Waves_sizesOf_49 : decode b_Waves_sizesOf 49 = .ok (.ireturn, 1) := by decide +kernel
def L_Waves_sizesOf (v : Nat) (o : Nat) (v3 : Nat) (o3 : Nat) (σ : zSt) : Nat → Nat → Int32 → Int32 → Option (Int32)
  | 0, _, _, _ => none
  | n + 1, 0, x3, x4 => if (σ.1 0 24 0) ≤ x4 then some x3 else ((F_Row_get v o x4 σ).bind fun r2 => (F_Integer_bitCount r2).bind fun r4 => (F_Row_get v3 o3 x4 σ).bind fun r6 => (F_Integer_bitCount r6).bind fun r8 => L_Waves_sizesOf v o v3 o3 σ n 0 (x3 + (r4 - r8)) (x4 + (1 : Int32)))
  | _ + 1, _, _, _ => none
theorem e_Waves_sizesOf_0 (v : Nat) (o : Nat) (v3 : Nat) (o3 : Nat) (σ : zSt) (n : Nat) (x3 : Int32) (x4 : Int32) : L_Waves_sizesOf v o v3 o3 σ (n + 1) 0 x3 x4 = (if (σ.1 0 24 0) ≤ x4 then some x3 else ((F_Row_get v o x4 σ).bind fun r2 => (F_Integer_bitCount r2).bind fun r4 => (F_Row_get v3 o3 x4 σ).bind fun r6 => (F_Integer_bitCount r6).bind fun r8 => L_Waves_sizesOf v o v3 o3 σ n 0 (x3 + (r4 - r8)) (x4 + (1 : Int32)))) := rfl
set_option maxHeartbeats 4000000 in
set_option maxRecDepth 100000 in
theorem w_Waves_sizesOf {l : Launch} {G : zLA} {p : Program} {e : Env} {s : State} {m : MethodId} {args : Array Value} {below : List Frame} {meth : Method} {c : Code} (C : zCx G p s m args meth c "VillageWaves" b_Waves_sizesOf 5 (some .int)) (hx : zxl G) {v : Nat} {o : Nat} (ho : zrow G v o) {v3 : Nat} {o3 : Nat} (ho3 : zrow G v3 o3) {σ : zSt} {r : Int32} : ∀ n : Nat, (∀ (x3 : Int32) (x4 : Int32), L_Waves_sizesOf v o v3 o3 σ n 0 x3 x4 = some r → zWV G p l e rm_Waves_sizesOf s m args below meth c 5 0 0 (zQ G below args s rm_Waves_sizesOf (some (.int r)) σ) 5 [(0, .ref (zad G 4 70)), (1, .ref (zad G v o)), (2, .ref (zad G v3 o3)), (3, .int x3), (4, .int x4)] [] σ) := by
  intro n
  induction n with
  | zero => exact fun _ _ hf => (by cases hf)
  | succ n ih =>
    refine ?_
    · intro x3 x4 hf
      rw [e_Waves_sizesOf_0] at hf
      refine z_iload C d_Waves_sizesOf_5 4 rfl ?_
      refine z_aload_n C d_Waves_sizesOf_7 0 rfl rfl ?_
      refine gf_Waves_10 C (zx4 hx 70 rfl) rfl rfl d_Waves_sizesOf_8 ?_
      refine gf_Waves_145 C (zlv (zxv hx 0 rfl) 0 rfl) rfl rfl d_Waves_sizesOf_11 ?_
      refine gf_Waves_149 C (zlv (zxv hx 0 rfl) 24 rfl) rfl rfl d_Waves_sizesOf_14 ?_
      refine z_icmp_ge (tgt := 48) C d_Waves_sizesOf_17 rfl (fun h9 => ?_) (fun h9 => ?_)
      · have hf := iff_t hf h9
        refine z_iload_n C d_Waves_sizesOf_48 3 rfl rfl ?_
        cases hf
        exact z_iret C rfl (Nat.le_of_ble_eq_true rfl) (Nat.le_of_ble_eq_true rfl) d_Waves_sizesOf_49
      · have hf := iff_f hf h9
        refine z_iload_n C d_Waves_sizesOf_20 3 rfl rfl ?_
        refine z_aload_n C d_Waves_sizesOf_21 1 rfl rfl ?_
        refine z_iload C d_Waves_sizesOf_22 4 rfl ?_
        obtain ⟨r2, h1, hf⟩ := bd_s hf
        refine z_cVi C kl_Waves_123 rfl (c_Row_get ho h1) ho.1 (ho.2.2.1 _ _ _ _) rfl rfl (Nat.le_of_ble_eq_true rfl) ⟨(Nat.le_of_ble_eq_true rfl), (Nat.le_of_ble_eq_true rfl)⟩ ⟨(Nat.le_of_ble_eq_true rfl), (Nat.le_of_ble_eq_true rfl)⟩ d_Waves_sizesOf_24 ?_
        obtain ⟨r4, h3, hf⟩ := bd_s hf
        refine z_cSi C kl_Waves_299 (c_Integer_bitCount h3) rfl rfl (Nat.le_of_ble_eq_true rfl) ⟨(Nat.le_of_ble_eq_true rfl), (Nat.le_of_ble_eq_true rfl)⟩ ⟨(Nat.le_of_ble_eq_true rfl), (Nat.le_of_ble_eq_true rfl)⟩ d_Waves_sizesOf_27 ?_
        refine z_aload_n C d_Waves_sizesOf_30 2 rfl rfl ?_
        refine z_iload C d_Waves_sizesOf_31 4 rfl ?_
        obtain ⟨r6, h5, hf⟩ := bd_s hf
        refine z_cVi C kl_Waves_123 rfl (c_Row_get ho3 h5) ho3.1 (ho3.2.2.1 _ _ _ _) rfl rfl (Nat.le_of_ble_eq_true rfl) ⟨(Nat.le_of_ble_eq_true rfl), (Nat.le_of_ble_eq_true rfl)⟩ ⟨(Nat.le_of_ble_eq_true rfl), (Nat.le_of_ble_eq_true rfl)⟩ d_Waves_sizesOf_33 ?_
        obtain ⟨r8, h7, hf⟩ := bd_s hf
        refine z_cSi C kl_Waves_299 (c_Integer_bitCount h7) rfl rfl (Nat.le_of_ble_eq_true rfl) ⟨(Nat.le_of_ble_eq_true rfl), (Nat.le_of_ble_eq_true rfl)⟩ ⟨(Nat.le_of_ble_eq_true rfl), (Nat.le_of_ble_eq_true rfl)⟩ d_Waves_sizesOf_36 ?_
        refine z_isub C d_Waves_sizesOf_39 ?_
        refine z_iadd C d_Waves_sizesOf_40 ?_
        refine z_istore_n C d_Waves_sizesOf_41 rfl (by decide) ?_
        refine z_iinc C d_Waves_sizesOf_42 4 rfl zki_1 (by decide) ?_
        refine z_goto (tgt := 5) C d_Waves_sizesOf_45 rfl ?_
        exact z_sub [2, 3, 4, 1, 0] rfl (ih _ _ hf)
def F_Waves_sizesOf (v : Nat) (o : Nat) (v3 : Nat) (o3 : Nat) (σ : zSt) : Option (Int32) :=
  L_Waves_sizesOf v o v3 o3 σ zK 0 (0 : Int32) (0 : Int32)
set_option maxHeartbeats 4000000 in
set_option maxRecDepth 100000 in
theorem c_Waves_sizesOf {l : Launch} {G : zLA} (hx : zxl G) {v : Nat} {o : Nat} (ho : zrow G v o) {v3 : Nat} {o3 : Nat} (ho3 : zrow G v3 o3) {σ : zSt} {r : Int32} (hf : F_Waves_sizesOf v o v3 o3 σ = some r) : zM l G y_Waves_sizesOf (zws y_Waves_sizesOf b_Waves_sizesOf 5 (some .int)) rm_Waves_sizesOf [.ref (zad G 4 70), .ref (zad G v o), .ref (zad G v3 o3)] σ (some (.int r)) σ := by
  refine z_ofM (own := "VillageWaves") (lv := [(0, .ref (zad G 4 70)), (1, .ref (zad G v o)), (2, .ref (zad G v3 o3))]) (by decide +kernel) rfl rfl (Nat.le_of_ble_eq_true rfl) (fun p e s m args below meth c C => ?_)
  rw [F_Waves_sizesOf] at hf
  refine z_iconst C d_Waves_sizesOf_0 zki_0 ?_
  refine z_istore_n C d_Waves_sizesOf_1 rfl (by decide) ?_
  refine z_iconst C d_Waves_sizesOf_2 zki_0 ?_
  refine z_istore C d_Waves_sizesOf_3 (by decide) ?_
  exact z_sub [2, 3, 4, 1, 0] rfl ((w_Waves_sizesOf C hx ho ho3 zK) _ _ hf)
abbrev rm_Waves_ahead : Room := { frames := 7, cells := 2, slots := 12, locals := 153 }
theorem d_Waves_ahead_0 : decode b_Waves_ahead 0 = .ok (.iload_n 1, 1) := by decide +kernel
theorem d_Waves_ahead_1 : decode b_Waves_ahead 1 = .ok (.iconst 1, 1) := by decide +kernel
theorem d_Waves_ahead_2 : decode b_Waves_ahead 2 = .ok (.sipush 500, 3) := by decide +kernel
theorem d_Waves_ahead_5 : decode b_Waves_ahead 5 = .ok (.invokestatic 56, 3) := by decide +kernel
theorem d_Waves_ahead_8 : decode b_Waves_ahead 8 = .ok (.iload_n 2, 1) := by decide +kernel
theorem d_Waves_ahead_9 : decode b_Waves_ahead 9 = .ok (.iconst 0, 1) := by decide +kernel
theorem d_Waves_ahead_10 : decode b_Waves_ahead 10 = .ok (.iconst 3, 1) := by decide +kernel
theorem d_Waves_ahead_11 : decode b_Waves_ahead 11 = .ok (.invokestatic 56, 3) := by decide +kernel
theorem d_Waves_ahead_14 : decode b_Waves_ahead 14 = .ok (.aload_n 0, 1) := by decide +kernel
theorem d_Waves_ahead_15 : decode b_Waves_ahead 15 = .ok (.getfield 16, 3) := by decide +kernel
theorem d_Waves_ahead_18 : decode b_Waves_ahead 18 = .ok (.aload_n 0, 1) := by decide +kernel
theorem d_Waves_ahead_19 : decode b_Waves_ahead 19 = .ok (.getfield 10, 3) := by decide +kernel
theorem d_Waves_ahead_22 : decode b_Waves_ahead 22 = .ok (.invokevirtual 64, 3) := by decide +kernel
theorem d_Waves_ahead_25 : decode b_Waves_ahead 25 = .ok (.aload_n 0, 1) := by decide +kernel
theorem d_Waves_ahead_26 : decode b_Waves_ahead 26 = .ok (.getfield 16, 3) := by decide +kernel
theorem d_Waves_ahead_29 : decode b_Waves_ahead 29 = .ok (.iload_n 1, 1) := by decide +kernel
theorem d_Waves_ahead_30 : decode b_Waves_ahead 30 = .ok (.invokevirtual 304, 3) := by decide +kernel
theorem d_Waves_ahead_33 : decode b_Waves_ahead 33 = .ok (.iload_n 2, 1) := by decide +kernel
theorem d_Waves_ahead_34 : decode b_Waves_ahead 34 = .ok (.tableswitch 98 0 2 #[26, 48, 73], 26) := by decide +kernel
theorem d_Waves_ahead_60 : decode b_Waves_ahead 60 = .ok (.aload_n 0, 1) := by decide +kernel
theorem d_Waves_ahead_61 : decode b_Waves_ahead 61 = .ok (.getfield 16, 3) := by decide +kernel
theorem d_Waves_ahead_64 : decode b_Waves_ahead 64 = .ok (.getfield 155, 3) := by decide +kernel
theorem d_Waves_ahead_67 : decode b_Waves_ahead 67 = .ok (.getfield 159, 3) := by decide +kernel
theorem d_Waves_ahead_70 : decode b_Waves_ahead 70 = .ok (.aload_n 0, 1) := by decide +kernel
theorem d_Waves_ahead_71 : decode b_Waves_ahead 71 = .ok (.getfield 10, 3) := by decide +kernel
theorem d_Waves_ahead_74 : decode b_Waves_ahead 74 = .ok (.getfield 155, 3) := by decide +kernel
theorem d_Waves_ahead_77 : decode b_Waves_ahead 77 = .ok (.getfield 159, 3) := by decide +kernel
theorem d_Waves_ahead_80 : decode b_Waves_ahead 80 = .ok (.isub, 1) := by decide +kernel
theorem d_Waves_ahead_81 : decode b_Waves_ahead 81 = .ok (.ireturn, 1) := by decide +kernel
theorem d_Waves_ahead_82 : decode b_Waves_ahead 82 = .ok (.aload_n 0, 1) := by decide +kernel
theorem d_Waves_ahead_83 : decode b_Waves_ahead 83 = .ok (.aload_n 0, 1) := by decide +kernel
theorem d_Waves_ahead_84 : decode b_Waves_ahead 84 = .ok (.getfield 16, 3) := by decide +kernel
theorem d_Waves_ahead_87 : decode b_Waves_ahead 87 = .ok (.getfield 145, 3) := by decide +kernel
theorem d_Waves_ahead_90 : decode b_Waves_ahead 90 = .ok (.getfield 259, 3) := by decide +kernel
theorem d_Waves_ahead_93 : decode b_Waves_ahead 93 = .ok (.aload_n 0, 1) := by decide +kernel
theorem d_Waves_ahead_94 : decode b_Waves_ahead 94 = .ok (.getfield 10, 3) := by decide +kernel
theorem d_Waves_ahead_97 : decode b_Waves_ahead 97 = .ok (.getfield 145, 3) := by decide +kernel
theorem d_Waves_ahead_100 : decode b_Waves_ahead 100 = .ok (.getfield 259, 3) := by decide +kernel
theorem d_Waves_ahead_103 : decode b_Waves_ahead 103 = .ok (.invokevirtual 329, 3) := by decide +kernel
theorem d_Waves_ahead_106 : decode b_Waves_ahead 106 = .ok (.ireturn, 1) := by decide +kernel
theorem d_Waves_ahead_107 : decode b_Waves_ahead 107 = .ok (.aload_n 0, 1) := by decide +kernel
theorem d_Waves_ahead_108 : decode b_Waves_ahead 108 = .ok (.aload_n 0, 1) := by decide +kernel
theorem d_Waves_ahead_109 : decode b_Waves_ahead 109 = .ok (.getfield 16, 3) := by decide +kernel
theorem d_Waves_ahead_112 : decode b_Waves_ahead 112 = .ok (.getfield 145, 3) := by decide +kernel
theorem d_Waves_ahead_115 : decode b_Waves_ahead 115 = .ok (.getfield 262, 3) := by decide +kernel
theorem d_Waves_ahead_118 : decode b_Waves_ahead 118 = .ok (.aload_n 0, 1) := by decide +kernel
theorem d_Waves_ahead_119 : decode b_Waves_ahead 119 = .ok (.getfield 10, 3) := by decide +kernel
theorem d_Waves_ahead_122 : decode b_Waves_ahead 122 = .ok (.getfield 145, 3) := by decide +kernel
theorem d_Waves_ahead_125 : decode b_Waves_ahead 125 = .ok (.getfield 262, 3) := by decide +kernel
theorem d_Waves_ahead_128 : decode b_Waves_ahead 128 = .ok (.invokevirtual 329, 3) := by decide +kernel
theorem d_Waves_ahead_131 : decode b_Waves_ahead 131 = .ok (.ireturn, 1) := by decide +kernel
theorem d_Waves_ahead_132 : decode b_Waves_ahead 132 = .ok (.aload_n 0, 1) := by decide +kernel
theorem d_Waves_ahead_133 : decode b_Waves_ahead 133 = .ok (.getfield 16, 3) := by decide +kernel
theorem d_Waves_ahead_136 : decode b_Waves_ahead 136 = .ok (.getfield 333, 3) := by decide +kernel
theorem d_Waves_ahead_139 : decode b_Waves_ahead 139 = .ok (.aload_n 0, 1) := by decide +kernel
theorem d_Waves_ahead_140 : decode b_Waves_ahead 140 = .ok (.getfield 10, 3) := by decide +kernel
theorem d_Waves_ahead_143 : decode b_Waves_ahead 143 = .ok (.getfield 333, 3) := by decide +kernel
theorem d_Waves_ahead_146 : decode b_Waves_ahead 146 = .ok (.isub, 1) := by decide +kernel
theorem d_Waves_ahead_147 : decode b_Waves_ahead 147 = .ok (.ireturn, 1) := by decide +kernel
def F_Waves_ahead (a0 : Int32) (a1 : Int32) (σ : zSt) : Option ((Int32 × zSt) ⊕ String) :=
  (F_Waves_checkWithin a0 (1 : Int32) (500 : Int32) σ).bind fun q2 => match q2 with | .inr E17 => some (.inr E17) | .inl _ => (F_Waves_checkWithin a1 (0 : Int32) (3 : Int32) σ).bind fun q4 => match q4 with | .inr E16 => some (.inr E16) | .inl _ => (F_Village_copyFrom 1 0 σ).bind fun σ6 => (F_Village_pass 1 a0 σ6).bind fun σ8 => if a1 = (0 : Int32) then some (.inl (((σ8.1 1 59 0) - (σ8.1 0 59 0)), σ8)) else (if a1 = (1 : Int32) then ((F_Waves_sizesOf 1 37 0 37 σ8).bind fun r12 => some (.inl (r12, σ8))) else (if a1 = (2 : Int32) then ((F_Waves_sizesOf 1 39 0 39 σ8).bind fun r15 => some (.inl (r15, σ8))) else some (.inl (((σ8.1 1 0 3) - (σ8.1 0 0 3)), σ8))))
set_option maxHeartbeats 4000000 in
set_option maxRecDepth 100000 in
theorem c_Waves_ahead {l : Launch} (hst : l.stackTraces = false) {G : zLA} (hx : zxl G) {a0 : Int32} {a1 : Int32} {σ : zSt} {out : (Int32 × zSt) ⊕ String} (hf : F_Waves_ahead a0 a1 σ = some out) : zX l G y_Waves_ahead (zws y_Waves_ahead b_Waves_ahead 3 (some .int)) rm_Waves_ahead [.ref (zad G 4 70), .int a0, .int a1] σ (cv_wi out σ) := by
  refine z_ofX (own := "VillageWaves") (lv := [(0, .ref (zad G 4 70)), (1, .int a0), (2, .int a1)]) (by decide +kernel) rfl rfl (Nat.le_of_ble_eq_true rfl) (fun p e s m args below meth c C X0 => ?_)
  have X : zXx l c := ⟨hst, X0⟩
  rw [F_Waves_ahead] at hf
  refine z_iload_n C d_Waves_ahead_0 1 rfl rfl ?_
  refine z_iconst C d_Waves_ahead_1 zki_1 ?_
  refine z_sipush C d_Waves_ahead_2 zks_500 ?_
  obtain ⟨q2, h1, hf⟩ := bd_s hf
  cases q2 with
  | inr E17 =>
    cases hf
    exact z_tXSv C kl_Waves_56 (c_Waves_checkWithin X.1 h1) rfl rfl (Nat.le_of_ble_eq_true rfl) ⟨(Nat.le_of_ble_eq_true rfl), (Nat.le_of_ble_eq_true rfl)⟩ ⟨(Nat.le_of_ble_eq_true rfl), (Nat.le_of_ble_eq_true rfl)⟩ d_Waves_ahead_5 X rfl (Nat.le_of_ble_eq_true rfl) (Nat.le_of_ble_eq_true rfl)
  | inl _ =>
    refine z_cXSv C kl_Waves_56 (c_Waves_checkWithin X.1 h1) rfl rfl (Nat.le_of_ble_eq_true rfl) ⟨(Nat.le_of_ble_eq_true rfl), (Nat.le_of_ble_eq_true rfl)⟩ ⟨(Nat.le_of_ble_eq_true rfl), (Nat.le_of_ble_eq_true rfl)⟩ d_Waves_ahead_5 ?_
    refine z_iload_n C d_Waves_ahead_8 2 rfl rfl ?_
    refine z_iconst C d_Waves_ahead_9 zki_0 ?_
    refine z_iconst C d_Waves_ahead_10 zki_3 ?_
    obtain ⟨q4, h3, hf⟩ := bd_s hf
    cases q4 with
    | inr E16 =>
      cases hf
      exact z_tXSv C kl_Waves_56 (c_Waves_checkWithin X.1 h3) rfl rfl (Nat.le_of_ble_eq_true rfl) ⟨(Nat.le_of_ble_eq_true rfl), (Nat.le_of_ble_eq_true rfl)⟩ ⟨(Nat.le_of_ble_eq_true rfl), (Nat.le_of_ble_eq_true rfl)⟩ d_Waves_ahead_11 X rfl (Nat.le_of_ble_eq_true rfl) (Nat.le_of_ble_eq_true rfl)
    | inl _ =>
      refine z_cXSv C kl_Waves_56 (c_Waves_checkWithin X.1 h3) rfl rfl (Nat.le_of_ble_eq_true rfl) ⟨(Nat.le_of_ble_eq_true rfl), (Nat.le_of_ble_eq_true rfl)⟩ ⟨(Nat.le_of_ble_eq_true rfl), (Nat.le_of_ble_eq_true rfl)⟩ d_Waves_ahead_11 ?_
      refine z_aload_n C d_Waves_ahead_14 0 rfl rfl ?_
      refine gf_Waves_16 C (zx4 hx 70 rfl) rfl rfl d_Waves_ahead_15 ?_
      refine z_aload_n C d_Waves_ahead_18 0 rfl rfl ?_
      refine gf_Waves_10 C (zx4 hx 70 rfl) rfl rfl d_Waves_ahead_19 ?_
      obtain ⟨σ6, h5, hf⟩ := bd_s hf
      refine z_cVv C kl_Waves_64 rfl (c_Village_copyFrom (zxv hx 1 rfl) (zxv hx 0 rfl) h5) (zlv (zxv hx 1 rfl) 0 rfl) rfl rfl rfl (Nat.le_of_ble_eq_true rfl) ⟨(Nat.le_of_ble_eq_true rfl), (Nat.le_of_ble_eq_true rfl)⟩ ⟨(Nat.le_of_ble_eq_true rfl), (Nat.le_of_ble_eq_true rfl)⟩ d_Waves_ahead_22 ?_
      refine z_aload_n C d_Waves_ahead_25 0 rfl rfl ?_
      refine gf_Waves_16 C (zx4 hx 70 rfl) rfl rfl d_Waves_ahead_26 ?_
      refine z_iload_n C d_Waves_ahead_29 1 rfl rfl ?_
      obtain ⟨σ8, h7, hf⟩ := bd_s hf
      refine z_cVv C kl_Waves_304 rfl (c_Village_pass (zxv hx 1 rfl) h7) (zlv (zxv hx 1 rfl) 0 rfl) rfl rfl rfl (Nat.le_of_ble_eq_true rfl) ⟨(Nat.le_of_ble_eq_true rfl), (Nat.le_of_ble_eq_true rfl)⟩ ⟨(Nat.le_of_ble_eq_true rfl), (Nat.le_of_ble_eq_true rfl)⟩ d_Waves_ahead_30 ?_
      refine z_iload_n C d_Waves_ahead_33 2 rfl rfl ?_
      by_cases h9 : a1 = (0 : Int32)
      · have hf := iff_t hf h9
        refine z_tin (off := 26) (tgt := 60) C d_Waves_ahead_34 (by rw [h9]; decide) (by rw [h9]; decide) (by rw [h9]; rfl) rfl ?_
        refine z_aload_n C d_Waves_ahead_60 0 rfl rfl ?_
        refine gf_Waves_16 C (zx4 hx 70 rfl) rfl rfl d_Waves_ahead_61 ?_
        refine gf_Waves_155 C (zlv (zxv hx 1 rfl) 0 rfl) rfl rfl d_Waves_ahead_64 ?_
        refine gf_Waves_159 C (zlv (zxv hx 1 rfl) 59 rfl) rfl rfl d_Waves_ahead_67 ?_
        refine z_aload_n C d_Waves_ahead_70 0 rfl rfl ?_
        refine gf_Waves_10 C (zx4 hx 70 rfl) rfl rfl d_Waves_ahead_71 ?_
        refine gf_Waves_155 C (zlv (zxv hx 0 rfl) 0 rfl) rfl rfl d_Waves_ahead_74 ?_
        refine gf_Waves_159 C (zlv (zxv hx 0 rfl) 59 rfl) rfl rfl d_Waves_ahead_77 ?_
        refine z_isub C d_Waves_ahead_80 ?_
        cases hf
        refine z_xret rfl ?_
        exact z_iret C rfl (Nat.le_of_ble_eq_true rfl) (Nat.le_of_ble_eq_true rfl) d_Waves_ahead_81
      · have hf := iff_f hf h9
        by_cases h10 : a1 = (1 : Int32)
        · have hf := iff_t hf h10
          refine z_tin (off := 48) (tgt := 82) C d_Waves_ahead_34 (by rw [h10]; decide) (by rw [h10]; decide) (by rw [h10]; rfl) rfl ?_
          refine z_aload_n C d_Waves_ahead_82 0 rfl rfl ?_
          refine z_aload_n C d_Waves_ahead_83 0 rfl rfl ?_
          refine gf_Waves_16 C (zx4 hx 70 rfl) rfl rfl d_Waves_ahead_84 ?_
          refine gf_Waves_145 C (zlv (zxv hx 1 rfl) 0 rfl) rfl rfl d_Waves_ahead_87 ?_
          refine gf_Waves_259 C (zlv (zxv hx 1 rfl) 24 rfl) rfl rfl d_Waves_ahead_90 ?_
          refine z_aload_n C d_Waves_ahead_93 0 rfl rfl ?_
          refine gf_Waves_10 C (zx4 hx 70 rfl) rfl rfl d_Waves_ahead_94 ?_
          refine gf_Waves_145 C (zlv (zxv hx 0 rfl) 0 rfl) rfl rfl d_Waves_ahead_97 ?_
          refine gf_Waves_259 C (zlv (zxv hx 0 rfl) 24 rfl) rfl rfl d_Waves_ahead_100 ?_
          obtain ⟨r12, h11, hf⟩ := bd_s hf
          refine z_cVi C kl_Waves_329 rfl (c_Waves_sizesOf hx (zrow_v (zxv hx 1 rfl) 37 rfl) (zrow_v (zxv hx 0 rfl) 37 rfl) h11) (zx4 hx 70 rfl) rfl rfl rfl (Nat.le_of_ble_eq_true rfl) ⟨(Nat.le_of_ble_eq_true rfl), (Nat.le_of_ble_eq_true rfl)⟩ ⟨(Nat.le_of_ble_eq_true rfl), (Nat.le_of_ble_eq_true rfl)⟩ d_Waves_ahead_103 ?_
          cases hf
          refine z_xret rfl ?_
          exact z_iret C rfl (Nat.le_of_ble_eq_true rfl) (Nat.le_of_ble_eq_true rfl) d_Waves_ahead_106
        · have hf := iff_f hf h10
          by_cases h13 : a1 = (2 : Int32)
          · have hf := iff_t hf h13
            refine z_tin (off := 73) (tgt := 107) C d_Waves_ahead_34 (by rw [h13]; decide) (by rw [h13]; decide) (by rw [h13]; rfl) rfl ?_
            refine z_aload_n C d_Waves_ahead_107 0 rfl rfl ?_
            refine z_aload_n C d_Waves_ahead_108 0 rfl rfl ?_
            refine gf_Waves_16 C (zx4 hx 70 rfl) rfl rfl d_Waves_ahead_109 ?_
            refine gf_Waves_145 C (zlv (zxv hx 1 rfl) 0 rfl) rfl rfl d_Waves_ahead_112 ?_
            refine gf_Waves_262 C (zlv (zxv hx 1 rfl) 24 rfl) rfl rfl d_Waves_ahead_115 ?_
            refine z_aload_n C d_Waves_ahead_118 0 rfl rfl ?_
            refine gf_Waves_10 C (zx4 hx 70 rfl) rfl rfl d_Waves_ahead_119 ?_
            refine gf_Waves_145 C (zlv (zxv hx 0 rfl) 0 rfl) rfl rfl d_Waves_ahead_122 ?_
            refine gf_Waves_262 C (zlv (zxv hx 0 rfl) 24 rfl) rfl rfl d_Waves_ahead_125 ?_
            obtain ⟨r15, h14, hf⟩ := bd_s hf
            refine z_cVi C kl_Waves_329 rfl (c_Waves_sizesOf hx (zrow_v (zxv hx 1 rfl) 39 rfl) (zrow_v (zxv hx 0 rfl) 39 rfl) h14) (zx4 hx 70 rfl) rfl rfl rfl (Nat.le_of_ble_eq_true rfl) ⟨(Nat.le_of_ble_eq_true rfl), (Nat.le_of_ble_eq_true rfl)⟩ ⟨(Nat.le_of_ble_eq_true rfl), (Nat.le_of_ble_eq_true rfl)⟩ d_Waves_ahead_128 ?_
            cases hf
            refine z_xret rfl ?_
            exact z_iret C rfl (Nat.le_of_ble_eq_true rfl) (Nat.le_of_ble_eq_true rfl) d_Waves_ahead_131
          · have hf := iff_f hf h13
            refine z_tout (tgt := 132) C d_Waves_ahead_34 (ztab_0_2 h9 h10 h13) rfl ?_
            refine z_aload_n C d_Waves_ahead_132 0 rfl rfl ?_
            refine gf_Waves_16 C (zx4 hx 70 rfl) rfl rfl d_Waves_ahead_133 ?_
            refine gf_Waves_333 C (zlv (zxv hx 1 rfl) 0 rfl) rfl rfl d_Waves_ahead_136 ?_
            refine z_aload_n C d_Waves_ahead_139 0 rfl rfl ?_
            refine gf_Waves_10 C (zx4 hx 70 rfl) rfl rfl d_Waves_ahead_140 ?_
            refine gf_Waves_333 C (zlv (zxv hx 0 rfl) 0 rfl) rfl rfl d_Waves_ahead_143 ?_
            refine z_isub C d_Waves_ahead_146 ?_
            cases hf
            refine z_xret rfl ?_
            exact z_iret C rfl (Nat.le_of_ble_eq_true rfl) (Nat.le_of_ble_eq_true rfl) d_Waves_ahead_147
abbrev rm_Waves_bestAuthor : Room := { frames := 7, cells := 1, slots := 6, locals := 153 }
theorem d_Waves_bestAuthor_0 : decode b_Waves_bestAuthor 0 = .ok (.iload_n 1, 1) := by decide +kernel
theorem d_Waves_bestAuthor_1 : decode b_Waves_bestAuthor 1 = .ok (.iconst 1, 1) := by decide +kernel
theorem d_Waves_bestAuthor_2 : decode b_Waves_bestAuthor 2 = .ok (.sipush 200, 3) := by decide +kernel
theorem d_Waves_bestAuthor_5 : decode b_Waves_bestAuthor 5 = .ok (.invokestatic 56, 3) := by decide +kernel
theorem d_Waves_bestAuthor_8 : decode b_Waves_bestAuthor 8 = .ok (.aload_n 0, 1) := by decide +kernel
theorem d_Waves_bestAuthor_9 : decode b_Waves_bestAuthor 9 = .ok (.getfield 10, 3) := by decide +kernel
theorem d_Waves_bestAuthor_12 : decode b_Waves_bestAuthor 12 = .ok (.getfield 145, 3) := by decide +kernel
theorem d_Waves_bestAuthor_15 : decode b_Waves_bestAuthor 15 = .ok (.invokevirtual 285, 3) := by decide +kernel
theorem d_Waves_bestAuthor_18 : decode b_Waves_bestAuthor 18 = .ok (.ifCond .eq 5, 3) := by decide +kernel
theorem d_Waves_bestAuthor_21 : decode b_Waves_bestAuthor 21 = .ok (.iconst (-1), 1) := by decide +kernel
theorem d_Waves_bestAuthor_22 : decode b_Waves_bestAuthor 22 = .ok (.ireturn, 1) := by decide +kernel
theorem d_Waves_bestAuthor_23 : decode b_Waves_bestAuthor 23 = .ok (.iconst (-1), 1) := by decide +kernel
theorem d_Waves_bestAuthor_24 : decode b_Waves_bestAuthor 24 = .ok (.istore_n 2, 1) := by decide +kernel
theorem d_Waves_bestAuthor_25 : decode b_Waves_bestAuthor 25 = .ok (.iconst 0, 1) := by decide +kernel
theorem d_Waves_bestAuthor_26 : decode b_Waves_bestAuthor 26 = .ok (.istore_n 3, 1) := by decide +kernel
theorem d_Waves_bestAuthor_27 : decode b_Waves_bestAuthor 27 = .ok (.iconst 0, 1) := by decide +kernel
theorem d_Waves_bestAuthor_28 : decode b_Waves_bestAuthor 28 = .ok (.istore 4, 2) := by decide +kernel
theorem d_Waves_bestAuthor_30 : decode b_Waves_bestAuthor 30 = .ok (.iload 4, 2) := by decide +kernel
theorem d_Waves_bestAuthor_32 : decode b_Waves_bestAuthor 32 = .ok (.aload_n 0, 1) := by decide +kernel
theorem d_Waves_bestAuthor_33 : decode b_Waves_bestAuthor 33 = .ok (.getfield 10, 3) := by decide +kernel
theorem d_Waves_bestAuthor_36 : decode b_Waves_bestAuthor 36 = .ok (.getfield 68, 3) := by decide +kernel
theorem d_Waves_bestAuthor_39 : decode b_Waves_bestAuthor 39 = .ok (.getfield 72, 3) := by decide +kernel
theorem d_Waves_bestAuthor_42 : decode b_Waves_bestAuthor 42 = .ok (.if_icmp .ge 72, 3) := by decide +kernel
theorem d_Waves_bestAuthor_45 : decode b_Waves_bestAuthor 45 = .ok (.aload_n 0, 1) := by decide +kernel
theorem d_Waves_bestAuthor_46 : decode b_Waves_bestAuthor 46 = .ok (.getfield 16, 3) := by decide +kernel
theorem d_Waves_bestAuthor_49 : decode b_Waves_bestAuthor 49 = .ok (.aload_n 0, 1) := by decide +kernel
theorem d_Waves_bestAuthor_50 : decode b_Waves_bestAuthor 50 = .ok (.getfield 10, 3) := by decide +kernel
theorem d_Waves_bestAuthor_53 : decode b_Waves_bestAuthor 53 = .ok (.invokevirtual 64, 3) := by decide +kernel
theorem d_Waves_bestAuthor_56 : decode b_Waves_bestAuthor 56 = .ok (.aload_n 0, 1) := by decide +kernel
theorem d_Waves_bestAuthor_57 : decode b_Waves_bestAuthor 57 = .ok (.getfield 16, 3) := by decide +kernel
theorem d_Waves_bestAuthor_60 : decode b_Waves_bestAuthor 60 = .ok (.iload 4, 2) := by decide +kernel
theorem d_Waves_bestAuthor_62 : decode b_Waves_bestAuthor 62 = .ok (.iconst 0, 1) := by decide +kernel
theorem d_Waves_bestAuthor_63 : decode b_Waves_bestAuthor 63 = .ok (.invokevirtual 286, 3) := by decide +kernel
theorem d_Waves_bestAuthor_66 : decode b_Waves_bestAuthor 66 = .ok (.istore 5, 2) := by decide +kernel
theorem d_Waves_bestAuthor_68 : decode b_Waves_bestAuthor 68 = .ok (.aload_n 0, 1) := by decide +kernel
theorem d_Waves_bestAuthor_69 : decode b_Waves_bestAuthor 69 = .ok (.getfield 16, 3) := by decide +kernel
theorem d_Waves_bestAuthor_72 : decode b_Waves_bestAuthor 72 = .ok (.iload_n 1, 1) := by decide +kernel
theorem d_Waves_bestAuthor_73 : decode b_Waves_bestAuthor 73 = .ok (.invokevirtual 304, 3) := by decide +kernel
theorem d_Waves_bestAuthor_76 : decode b_Waves_bestAuthor 76 = .ok (.aload_n 0, 1) := by decide +kernel
theorem d_Waves_bestAuthor_77 : decode b_Waves_bestAuthor 77 = .ok (.getfield 16, 3) := by decide +kernel
theorem d_Waves_bestAuthor_80 : decode b_Waves_bestAuthor 80 = .ok (.getfield 145, 3) := by decide +kernel
theorem d_Waves_bestAuthor_83 : decode b_Waves_bestAuthor 83 = .ok (.getfield 259, 3) := by decide +kernel
theorem d_Waves_bestAuthor_86 : decode b_Waves_bestAuthor 86 = .ok (.iload 5, 2) := by decide +kernel
theorem d_Waves_bestAuthor_88 : decode b_Waves_bestAuthor 88 = .ok (.invokevirtual 123, 3) := by decide +kernel
theorem d_Waves_bestAuthor_91 : decode b_Waves_bestAuthor 91 = .ok (.invokestatic 299, 3) := by decide +kernel
theorem d_Waves_bestAuthor_94 : decode b_Waves_bestAuthor 94 = .ok (.istore 6, 2) := by decide +kernel
theorem d_Waves_bestAuthor_96 : decode b_Waves_bestAuthor 96 = .ok (.iload 6, 2) := by decide +kernel
theorem d_Waves_bestAuthor_98 : decode b_Waves_bestAuthor 98 = .ok (.iload_n 3, 1) := by decide +kernel
theorem d_Waves_bestAuthor_99 : decode b_Waves_bestAuthor 99 = .ok (.if_icmp .le 9, 3) := by decide +kernel
theorem d_Waves_bestAuthor_102 : decode b_Waves_bestAuthor 102 = .ok (.iload 6, 2) := by decide +kernel
theorem d_Waves_bestAuthor_104 : decode b_Waves_bestAuthor 104 = .ok (.istore_n 3, 1) := by decide +kernel
theorem d_Waves_bestAuthor_105 : decode b_Waves_bestAuthor 105 = .ok (.iload 4, 2) := by decide +kernel
theorem d_Waves_bestAuthor_107 : decode b_Waves_bestAuthor 107 = .ok (.istore_n 2, 1) := by decide +kernel
theorem d_Waves_bestAuthor_108 : decode b_Waves_bestAuthor 108 = .ok (.iinc 4 1, 3) := by decide +kernel
theorem d_Waves_bestAuthor_111 : decode b_Waves_bestAuthor 111 = .ok (.goto (-81), 3) := by decide +kernel
theorem d_Waves_bestAuthor_114 : decode b_Waves_bestAuthor 114 = .ok (.iload_n 2, 1) := by decide +kernel
theorem d_Waves_bestAuthor_115 : decode b_Waves_bestAuthor 115 = .ok (.ireturn, 1) := by decide +kernel
def L_Waves_bestAuthor : Nat → Nat → Int32 → Int32 → Int32 → Int32 → zSt → Option ((Int32 × zSt) ⊕ String)
  | 0, _, _, _, _, _, _ => none
  | n + 1, 0, x1, x2, x3, x4, σ => if (σ.1 0 3 0) ≤ x4 then some (.inl (x2, σ)) else ((F_Village_copyFrom 1 0 σ).bind fun σ8 => bd2 (F_Village_addNews 1 x4 (0 : Int32) σ8) fun r10 σ11 => (F_Village_pass 1 x1 σ11).bind fun σ13 => (F_Row_get 1 37 r10 σ13).bind fun r15 => (F_Integer_bitCount r15).bind fun r17 => if r17 ≤ x3 then L_Waves_bestAuthor n 0 x1 x2 x3 (x4 + (1 : Int32)) σ13 else L_Waves_bestAuthor n 0 x1 x4 r17 (x4 + (1 : Int32)) σ13)
  | _ + 1, _, _, _, _, _, _ => none
theorem e_Waves_bestAuthor_0 (n : Nat) (x1 : Int32) (x2 : Int32) (x3 : Int32) (x4 : Int32) (σ : zSt) : L_Waves_bestAuthor (n + 1) 0 x1 x2 x3 x4 σ = (if (σ.1 0 3 0) ≤ x4 then some (.inl (x2, σ)) else ((F_Village_copyFrom 1 0 σ).bind fun σ8 => bd2 (F_Village_addNews 1 x4 (0 : Int32) σ8) fun r10 σ11 => (F_Village_pass 1 x1 σ11).bind fun σ13 => (F_Row_get 1 37 r10 σ13).bind fun r15 => (F_Integer_bitCount r15).bind fun r17 => if r17 ≤ x3 then L_Waves_bestAuthor n 0 x1 x2 x3 (x4 + (1 : Int32)) σ13 else L_Waves_bestAuthor n 0 x1 x4 r17 (x4 + (1 : Int32)) σ13)) := rfl
set_option maxHeartbeats 4000000 in
set_option maxRecDepth 100000 in
theorem w_Waves_bestAuthor {l : Launch} {G : zLA} {p : Program} {e : Env} {s : State} {m : MethodId} {args : Array Value} {below : List Frame} {meth : Method} {c : Code} (C : zCx G p s m args meth c "VillageWaves" b_Waves_bestAuthor 7 (some .int)) (X : zXx l c) (hx : zxl G) {σ0 : zSt} {out : (Int32 × zSt) ⊕ String} : ∀ n : Nat, (∀ (x1 : Int32) (x2 : Int32) (x3 : Int32) (x4 : Int32) (σ : zSt), L_Waves_bestAuthor n 0 x1 x2 x3 x4 σ = some out → zWV G p l e rm_Waves_bestAuthor s m args below meth c 7 1 6 (zXQ G below args s rm_Waves_bestAuthor (cv_wi out σ0) σ0) 30 [(0, .ref (zad G 4 70)), (1, .int x1), (2, .int x2), (3, .int x3), (4, .int x4)] [] σ) := by
  intro n
  induction n with
  | zero => exact fun _ _ _ _ _ hf => (by cases hf)
  | succ n ih =>
    refine ?_
    · intro x1 x2 x3 x4 σ hf
      rw [e_Waves_bestAuthor_0] at hf
      refine z_iload C d_Waves_bestAuthor_30 4 rfl ?_
      refine z_aload_n C d_Waves_bestAuthor_32 0 rfl rfl ?_
      refine gf_Waves_10 C (zx4 hx 70 rfl) rfl rfl d_Waves_bestAuthor_33 ?_
      refine gf_Waves_68 C (zlv (zxv hx 0 rfl) 0 rfl) rfl rfl d_Waves_bestAuthor_36 ?_
      refine gf_Waves_72 C (zlv (zxv hx 0 rfl) 3 rfl) rfl rfl d_Waves_bestAuthor_39 ?_
      refine z_icmp_ge (tgt := 114) C d_Waves_bestAuthor_42 rfl (fun h19 => ?_) (fun h19 => ?_)
      · have hf := iff_t hf h19
        refine z_iload_n C d_Waves_bestAuthor_114 2 rfl rfl ?_
        cases hf
        refine z_xret rfl ?_
        exact z_iret C rfl (Nat.le_of_ble_eq_true rfl) (Nat.le_of_ble_eq_true rfl) d_Waves_bestAuthor_115
      · have hf := iff_f hf h19
        refine z_aload_n C d_Waves_bestAuthor_45 0 rfl rfl ?_
        refine gf_Waves_16 C (zx4 hx 70 rfl) rfl rfl d_Waves_bestAuthor_46 ?_
        refine z_aload_n C d_Waves_bestAuthor_49 0 rfl rfl ?_
        refine gf_Waves_10 C (zx4 hx 70 rfl) rfl rfl d_Waves_bestAuthor_50 ?_
        obtain ⟨σ8, h7, hf⟩ := bd_s hf
        refine z_cVv C kl_Waves_64 rfl (c_Village_copyFrom (zxv hx 1 rfl) (zxv hx 0 rfl) h7) (zlv (zxv hx 1 rfl) 0 rfl) rfl rfl rfl (Nat.le_of_ble_eq_true rfl) ⟨(Nat.le_of_ble_eq_true rfl), (Nat.le_of_ble_eq_true rfl)⟩ ⟨(Nat.le_of_ble_eq_true rfl), (Nat.le_of_ble_eq_true rfl)⟩ d_Waves_bestAuthor_53 ?_
        refine z_aload_n C d_Waves_bestAuthor_56 0 rfl rfl ?_
        refine gf_Waves_16 C (zx4 hx 70 rfl) rfl rfl d_Waves_bestAuthor_57 ?_
        refine z_iload C d_Waves_bestAuthor_60 4 rfl ?_
        refine z_iconst C d_Waves_bestAuthor_62 zki_0 ?_
        obtain ⟨r10, σ11, h9, hf⟩ := bd2_s hf
        refine z_cVi C kl_Waves_286 rfl (c_Village_addNews (zxv hx 1 rfl) h9) (zlv (zxv hx 1 rfl) 0 rfl) rfl rfl rfl (Nat.le_of_ble_eq_true rfl) ⟨(Nat.le_of_ble_eq_true rfl), (Nat.le_of_ble_eq_true rfl)⟩ ⟨(Nat.le_of_ble_eq_true rfl), (Nat.le_of_ble_eq_true rfl)⟩ d_Waves_bestAuthor_63 ?_
        refine z_istore C d_Waves_bestAuthor_66 (by decide) ?_
        refine z_aload_n C d_Waves_bestAuthor_68 1 rfl rfl ?_
        refine gf_Waves_16 C (zx4 hx 70 rfl) rfl rfl d_Waves_bestAuthor_69 ?_
        refine z_iload_n C d_Waves_bestAuthor_72 2 rfl rfl ?_
        obtain ⟨σ13, h12, hf⟩ := bd_s hf
        refine z_cVv C kl_Waves_304 rfl (c_Village_pass (zxv hx 1 rfl) h12) (zlv (zxv hx 1 rfl) 0 rfl) rfl rfl rfl (Nat.le_of_ble_eq_true rfl) ⟨(Nat.le_of_ble_eq_true rfl), (Nat.le_of_ble_eq_true rfl)⟩ ⟨(Nat.le_of_ble_eq_true rfl), (Nat.le_of_ble_eq_true rfl)⟩ d_Waves_bestAuthor_73 ?_
        refine z_aload_n C d_Waves_bestAuthor_76 1 rfl rfl ?_
        refine gf_Waves_16 C (zx4 hx 70 rfl) rfl rfl d_Waves_bestAuthor_77 ?_
        refine gf_Waves_145 C (zlv (zxv hx 1 rfl) 0 rfl) rfl rfl d_Waves_bestAuthor_80 ?_
        refine gf_Waves_259 C (zlv (zxv hx 1 rfl) 24 rfl) rfl rfl d_Waves_bestAuthor_83 ?_
        refine z_iload C d_Waves_bestAuthor_86 0 rfl ?_
        obtain ⟨r15, h14, hf⟩ := bd_s hf
        refine z_cVi C kl_Waves_123 rfl (c_Row_get (zrow_v (zxv hx 1 rfl) 37 rfl) h14) (zlv (zxv hx 1 rfl) 37 rfl) rfl rfl rfl (Nat.le_of_ble_eq_true rfl) ⟨(Nat.le_of_ble_eq_true rfl), (Nat.le_of_ble_eq_true rfl)⟩ ⟨(Nat.le_of_ble_eq_true rfl), (Nat.le_of_ble_eq_true rfl)⟩ d_Waves_bestAuthor_88 ?_
        obtain ⟨r17, h16, hf⟩ := bd_s hf
        refine z_cSi C kl_Waves_299 (c_Integer_bitCount h16) rfl rfl (Nat.le_of_ble_eq_true rfl) ⟨(Nat.le_of_ble_eq_true rfl), (Nat.le_of_ble_eq_true rfl)⟩ ⟨(Nat.le_of_ble_eq_true rfl), (Nat.le_of_ble_eq_true rfl)⟩ d_Waves_bestAuthor_91 ?_
        refine z_istore C d_Waves_bestAuthor_94 (by decide) ?_
        refine z_iload C d_Waves_bestAuthor_96 0 rfl ?_
        refine z_iload_n C d_Waves_bestAuthor_98 5 rfl rfl ?_
        refine z_icmp_le (tgt := 108) C d_Waves_bestAuthor_99 rfl (fun h18 => ?_) (fun h18 => ?_)
        · have hf := iff_t hf h18
          refine z_iinc C d_Waves_bestAuthor_108 6 rfl zki_1 (by decide) ?_
          refine z_goto (tgt := 30) C d_Waves_bestAuthor_111 rfl ?_
          exact z_sub [3, 4, 5, 6, 0] rfl (ih _ _ _ _ _ hf)
        · have hf := iff_f hf h18
          refine z_iload C d_Waves_bestAuthor_102 0 rfl ?_
          refine z_istore_n C d_Waves_bestAuthor_104 rfl (by decide) ?_
          refine z_iload C d_Waves_bestAuthor_105 6 rfl ?_
          refine z_istore_n C d_Waves_bestAuthor_107 rfl (by decide) ?_
          refine z_iinc C d_Waves_bestAuthor_108 6 rfl zki_1 (by decide) ?_
          refine z_goto (tgt := 30) C d_Waves_bestAuthor_111 rfl ?_
          exact z_sub [5, 6, 1, 2, 0] rfl (ih _ _ _ _ _ hf)
def F_Waves_bestAuthor (a0 : Int32) (σ : zSt) : Option ((Int32 × zSt) ⊕ String) :=
  (F_Waves_checkWithin a0 (1 : Int32) (200 : Int32) σ).bind fun q2 => match q2 with | .inr E6 => some (.inr E6) | .inl _ => (F_Tidings_isFull 0 σ).bind fun r4 => if r4 = 0 then L_Waves_bestAuthor zK 0 a0 (-1 : Int32) (0 : Int32) (0 : Int32) σ else some (.inl ((-1 : Int32), σ))
set_option maxHeartbeats 4000000 in
set_option maxRecDepth 100000 in
theorem c_Waves_bestAuthor {l : Launch} (hst : l.stackTraces = false) {G : zLA} (hx : zxl G) {a0 : Int32} {σ : zSt} {out : (Int32 × zSt) ⊕ String} (hf : F_Waves_bestAuthor a0 σ = some out) : zX l G y_Waves_bestAuthor (zws y_Waves_bestAuthor b_Waves_bestAuthor 7 (some .int)) rm_Waves_bestAuthor [.ref (zad G 4 70), .int a0] σ (cv_wi out σ) := by
  refine z_ofX (own := "VillageWaves") (lv := [(0, .ref (zad G 4 70)), (1, .int a0)]) (by decide +kernel) rfl rfl (Nat.le_of_ble_eq_true rfl) (fun p e s m args below meth c C X0 => ?_)
  have X : zXx l c := ⟨hst, X0⟩
  rw [F_Waves_bestAuthor] at hf
  refine z_iload_n C d_Waves_bestAuthor_0 1 rfl rfl ?_
  refine z_iconst C d_Waves_bestAuthor_1 zki_1 ?_
  refine z_sipush C d_Waves_bestAuthor_2 zks_200 ?_
  obtain ⟨q2, h1, hf⟩ := bd_s hf
  cases q2 with
  | inr E6 =>
    cases hf
    exact z_tXSv C kl_Waves_56 (c_Waves_checkWithin X.1 h1) rfl rfl (Nat.le_of_ble_eq_true rfl) ⟨(Nat.le_of_ble_eq_true rfl), (Nat.le_of_ble_eq_true rfl)⟩ ⟨(Nat.le_of_ble_eq_true rfl), (Nat.le_of_ble_eq_true rfl)⟩ d_Waves_bestAuthor_5 X rfl (Nat.le_of_ble_eq_true rfl) (Nat.le_of_ble_eq_true rfl)
  | inl _ =>
    refine z_cXSv C kl_Waves_56 (c_Waves_checkWithin X.1 h1) rfl rfl (Nat.le_of_ble_eq_true rfl) ⟨(Nat.le_of_ble_eq_true rfl), (Nat.le_of_ble_eq_true rfl)⟩ ⟨(Nat.le_of_ble_eq_true rfl), (Nat.le_of_ble_eq_true rfl)⟩ d_Waves_bestAuthor_5 ?_
    refine z_aload_n C d_Waves_bestAuthor_8 0 rfl rfl ?_
    refine gf_Waves_10 C (zx4 hx 70 rfl) rfl rfl d_Waves_bestAuthor_9 ?_
    refine gf_Waves_145 C (zlv (zxv hx 0 rfl) 0 rfl) rfl rfl d_Waves_bestAuthor_12 ?_
    obtain ⟨r4, h3, hf⟩ := bd_s hf
    refine z_cVi C kl_Waves_285 rfl (c_Tidings_isFull (zxv hx 0 rfl) h3) (zlv (zxv hx 0 rfl) 24 rfl) rfl rfl rfl (Nat.le_of_ble_eq_true rfl) ⟨(Nat.le_of_ble_eq_true rfl), (Nat.le_of_ble_eq_true rfl)⟩ ⟨(Nat.le_of_ble_eq_true rfl), (Nat.le_of_ble_eq_true rfl)⟩ d_Waves_bestAuthor_15 ?_
    refine z_if_eq (tgt := 23) C d_Waves_bestAuthor_18 rfl (fun h5 => ?_) (fun h5 => ?_)
    · have hf := iff_t hf h5
      refine z_iconst C d_Waves_bestAuthor_23 zki_m1 ?_
      refine z_istore_n C d_Waves_bestAuthor_24 rfl (by decide) ?_
      refine z_iconst C d_Waves_bestAuthor_25 zki_0 ?_
      refine z_istore_n C d_Waves_bestAuthor_26 rfl (by decide) ?_
      refine z_iconst C d_Waves_bestAuthor_27 zki_0 ?_
      refine z_istore C d_Waves_bestAuthor_28 (by decide) ?_
      exact z_sub [3, 4, 2, 1, 0] rfl ((w_Waves_bestAuthor C X hx zK) _ _ _ _ _ hf)
    · have hf := iff_f hf h5
      refine z_iconst C d_Waves_bestAuthor_21 zki_m1 ?_
      cases hf
      refine z_xret rfl ?_
      exact z_iret C rfl (Nat.le_of_ble_eq_true rfl) (Nat.le_of_ble_eq_true rfl) d_Waves_bestAuthor_22
abbrev rm_Waves_savedIn : Room := { frames := 0, cells := 0, slots := 0, locals := 0 }
theorem d_Waves_savedIn_0 : decode b_Waves_savedIn 0 = .ok (.iload_n 1, 1) := by decide +kernel
theorem d_Waves_savedIn_1 : decode b_Waves_savedIn 1 = .ok (.ifCond .ne 10, 3) := by decide +kernel
theorem d_Waves_savedIn_4 : decode b_Waves_savedIn 4 = .ok (.aload_n 0, 1) := by decide +kernel
theorem d_Waves_savedIn_5 : decode b_Waves_savedIn 5 = .ok (.getfield 19, 3) := by decide +kernel
theorem d_Waves_savedIn_8 : decode b_Waves_savedIn 8 = .ok (.goto 7, 3) := by decide +kernel
theorem d_Waves_savedIn_11 : decode b_Waves_savedIn 11 = .ok (.aload_n 0, 1) := by decide +kernel
theorem d_Waves_savedIn_12 : decode b_Waves_savedIn 12 = .ok (.getfield 22, 3) := by decide +kernel
theorem d_Waves_savedIn_15 : decode b_Waves_savedIn 15 = .ok (.areturn, 1) := by decide +kernel
def F_Waves_savedIn (a0 : Int32) (σ : zSt) : Option (Nat) :=
  if a0 = 0 then some 2 else some 3
set_option maxHeartbeats 4000000 in
set_option maxRecDepth 100000 in
theorem c_Waves_savedIn {l : Launch} {G : zLA} (hx : zxl G) {a0 : Int32} {σ : zSt} {r : Nat} (hf : F_Waves_savedIn a0 σ = some r) : zM l G y_Waves_savedIn (zws y_Waves_savedIn b_Waves_savedIn 2 (some (.object "VillageWaves$Village"))) rm_Waves_savedIn [.ref (zad G 4 70), .int a0] σ (some (.ref (zad G r 0))) σ := by
  refine z_ofM (own := "VillageWaves") (lv := [(0, .ref (zad G 4 70)), (1, .int a0)]) (by decide +kernel) rfl rfl (Nat.le_of_ble_eq_true rfl) (fun p e s m args below meth c C => ?_)
  rw [F_Waves_savedIn] at hf
  refine z_iload_n C d_Waves_savedIn_0 1 rfl rfl ?_
  refine z_if_ne (tgt := 11) C d_Waves_savedIn_1 rfl (fun h1 => ?_) (fun h1 => ?_)
  · have hf := iff_f hf h1
    refine z_aload_n C d_Waves_savedIn_11 0 rfl rfl ?_
    refine gf_Waves_22 C (zx4 hx 70 rfl) rfl rfl d_Waves_savedIn_12 ?_
    cases hf
    exact z_aret C rfl (Or.inl ⟨_, rfl⟩) (Nat.le_of_ble_eq_true rfl) (Nat.le_of_ble_eq_true rfl) d_Waves_savedIn_15
  · have hf := iff_t hf h1
    refine z_aload_n C d_Waves_savedIn_4 0 rfl rfl ?_
    refine gf_Waves_19 C (zx4 hx 70 rfl) rfl rfl d_Waves_savedIn_5 ?_
    refine z_goto (tgt := 15) C d_Waves_savedIn_8 rfl ?_
    cases hf
    exact z_aret C rfl (Or.inl ⟨_, rfl⟩) (Nat.le_of_ble_eq_true rfl) (Nat.le_of_ble_eq_true rfl) d_Waves_savedIn_15
theorem lt4_Waves_savedIn {a0 : Int32} {σ : zSt} {r : Nat} (hf : F_Waves_savedIn a0 σ = some r) : r < 4 := by
  rw [F_Waves_savedIn] at hf
  split at hf <;> cases hf <;> decide
abbrev rm_Waves_save : Room := { frames := 7, cells := 1, slots := 6, locals := 153 }
theorem d_Waves_save_0 : decode b_Waves_save 0 = .ok (.iload_n 1, 1) := by decide +kernel
theorem d_Waves_save_1 : decode b_Waves_save 1 = .ok (.iconst 0, 1) := by decide +kernel
theorem d_Waves_save_2 : decode b_Waves_save 2 = .ok (.iconst 1, 1) := by decide +kernel
theorem d_Waves_save_3 : decode b_Waves_save 3 = .ok (.invokestatic 56, 3) := by decide +kernel
theorem d_Waves_save_6 : decode b_Waves_save 6 = .ok (.aload_n 0, 1) := by decide +kernel
theorem d_Waves_save_7 : decode b_Waves_save 7 = .ok (.iload_n 1, 1) := by decide +kernel
theorem d_Waves_save_8 : decode b_Waves_save 8 = .ok (.invokevirtual 336, 3) := by decide +kernel
theorem d_Waves_save_11 : decode b_Waves_save 11 = .ok (.aload_n 0, 1) := by decide +kernel
theorem d_Waves_save_12 : decode b_Waves_save 12 = .ok (.getfield 10, 3) := by decide +kernel
theorem d_Waves_save_15 : decode b_Waves_save 15 = .ok (.invokevirtual 64, 3) := by decide +kernel
theorem d_Waves_save_18 : decode b_Waves_save 18 = .ok (.aload_n 0, 1) := by decide +kernel
theorem d_Waves_save_19 : decode b_Waves_save 19 = .ok (.dup, 1) := by decide +kernel
theorem d_Waves_save_20 : decode b_Waves_save 20 = .ok (.getfield 25, 3) := by decide +kernel
theorem d_Waves_save_23 : decode b_Waves_save 23 = .ok (.iload_n 1, 1) := by decide +kernel
theorem d_Waves_save_24 : decode b_Waves_save 24 = .ok (.invokestatic 340, 3) := by decide +kernel
theorem d_Waves_save_27 : decode b_Waves_save 27 = .ok (.ior, 1) := by decide +kernel
theorem d_Waves_save_28 : decode b_Waves_save 28 = .ok (.putfield 25, 3) := by decide +kernel
theorem d_Waves_save_31 : decode b_Waves_save 31 = .ok (.return_, 1) := by decide +kernel
def F_Waves_save (a0 : Int32) (σ : zSt) : Option ((zSt) ⊕ String) :=
  (F_Waves_checkWithin a0 (0 : Int32) (1 : Int32) σ).bind fun q2 => match q2 with | .inr E9 => some (.inr E9) | .inl _ => (F_Waves_savedIn a0 σ).bind fun r4 => (F_Village_copyFrom r4 0 σ).bind fun σ6 => (F_Waves_bit a0 σ6).bind fun r8 => some (.inl (zst σ6 4 70 4 ((σ6.1 4 70 4) ||| r8)))
set_option maxHeartbeats 4000000 in
set_option maxRecDepth 100000 in
theorem c_Waves_save {l : Launch} (hst : l.stackTraces = false) {G : zLA} (hx : zxl G) {a0 : Int32} {σ : zSt} {out : (zSt) ⊕ String} (hf : F_Waves_save a0 σ = some out) : zX l G y_Waves_save (zws y_Waves_save b_Waves_save 2 none) rm_Waves_save [.ref (zad G 4 70), .int a0] σ (cv_wu out σ) := by
  refine z_ofX (own := "VillageWaves") (lv := [(0, .ref (zad G 4 70)), (1, .int a0)]) (by decide +kernel) rfl rfl (Nat.le_of_ble_eq_true rfl) (fun p e s m args below meth c C X0 => ?_)
  have X : zXx l c := ⟨hst, X0⟩
  rw [F_Waves_save] at hf
  refine z_iload_n C d_Waves_save_0 1 rfl rfl ?_
  refine z_iconst C d_Waves_save_1 zki_0 ?_
  refine z_iconst C d_Waves_save_2 zki_1 ?_
  obtain ⟨q2, h1, hf⟩ := bd_s hf
  cases q2 with
  | inr E9 =>
    cases hf
    exact z_tXSv C kl_Waves_56 (c_Waves_checkWithin X.1 h1) rfl rfl (Nat.le_of_ble_eq_true rfl) ⟨(Nat.le_of_ble_eq_true rfl), (Nat.le_of_ble_eq_true rfl)⟩ ⟨(Nat.le_of_ble_eq_true rfl), (Nat.le_of_ble_eq_true rfl)⟩ d_Waves_save_3 X rfl (Nat.le_of_ble_eq_true rfl) (Nat.le_of_ble_eq_true rfl)
  | inl _ =>
    refine z_cXSv C kl_Waves_56 (c_Waves_checkWithin X.1 h1) rfl rfl (Nat.le_of_ble_eq_true rfl) ⟨(Nat.le_of_ble_eq_true rfl), (Nat.le_of_ble_eq_true rfl)⟩ ⟨(Nat.le_of_ble_eq_true rfl), (Nat.le_of_ble_eq_true rfl)⟩ d_Waves_save_3 ?_
    refine z_aload_n C d_Waves_save_6 0 rfl rfl ?_
    refine z_iload_n C d_Waves_save_7 1 rfl rfl ?_
    obtain ⟨r4, h3, hf⟩ := bd_s hf
    have hr4 : zvl G r4 := hx.2 _ (lt4_Waves_savedIn h3)
    refine z_cVr C kl_Waves_336 rfl (c_Waves_savedIn hx h3) (zx4 hx 70 rfl) rfl rfl rfl (Nat.le_of_ble_eq_true rfl) ⟨(Nat.le_of_ble_eq_true rfl), (Nat.le_of_ble_eq_true rfl)⟩ ⟨(Nat.le_of_ble_eq_true rfl), (Nat.le_of_ble_eq_true rfl)⟩ d_Waves_save_8 ?_
    refine z_aload_n C d_Waves_save_11 0 rfl rfl ?_
    refine gf_Waves_10 C (zx4 hx 70 rfl) rfl rfl d_Waves_save_12 ?_
    obtain ⟨σ6, h5, hf⟩ := bd_s hf
    refine z_cVv C kl_Waves_64 rfl (c_Village_copyFrom hr4 (zxv hx 0 rfl) h5) (zlv hr4 0 rfl) rfl rfl rfl (Nat.le_of_ble_eq_true rfl) ⟨(Nat.le_of_ble_eq_true rfl), (Nat.le_of_ble_eq_true rfl)⟩ ⟨(Nat.le_of_ble_eq_true rfl), (Nat.le_of_ble_eq_true rfl)⟩ d_Waves_save_15 ?_
    refine z_aload_n C d_Waves_save_18 0 rfl rfl ?_
    refine z_dup C d_Waves_save_19 rfl ?_
    refine gf_Waves_25 C (zx4 hx 70 rfl) rfl rfl d_Waves_save_20 ?_
    refine z_iload_n C d_Waves_save_23 1 rfl rfl ?_
    obtain ⟨r8, h7, hf⟩ := bd_s hf
    refine z_cSi C kl_Waves_340 (c_Waves_bit h7) rfl rfl (Nat.le_of_ble_eq_true rfl) ⟨(Nat.le_of_ble_eq_true rfl), (Nat.le_of_ble_eq_true rfl)⟩ ⟨(Nat.le_of_ble_eq_true rfl), (Nat.le_of_ble_eq_true rfl)⟩ d_Waves_save_24 ?_
    refine z_ior C d_Waves_save_27 ?_
    refine pf_Waves_25 C (zx4 hx 70 rfl) rfl (Nat.le_of_ble_eq_true rfl) rfl d_Waves_save_28 ?_
    cases hf
    refine z_xret rfl ?_
    exact z_vret C rfl (Nat.le_of_ble_eq_true rfl) (Nat.le_of_ble_eq_true rfl) d_Waves_save_31
abbrev rm_Waves_restore : Room := { frames := 7, cells := 2, slots := 12, locals := 153 }
theorem d_Waves_restore_0 : decode b_Waves_restore 0 = .ok (.iload_n 1, 1) := by decide +kernel
theorem d_Waves_restore_1 : decode b_Waves_restore 1 = .ok (.iconst 0, 1) := by decide +kernel
theorem d_Waves_restore_2 : decode b_Waves_restore 2 = .ok (.iconst 1, 1) := by decide +kernel
theorem d_Waves_restore_3 : decode b_Waves_restore 3 = .ok (.invokestatic 56, 3) := by decide +kernel
theorem d_Waves_restore_6 : decode b_Waves_restore 6 = .ok (.aload_n 0, 1) := by decide +kernel
theorem d_Waves_restore_7 : decode b_Waves_restore 7 = .ok (.getfield 25, 3) := by decide +kernel
theorem d_Waves_restore_10 : decode b_Waves_restore 10 = .ok (.iload_n 1, 1) := by decide +kernel
theorem d_Waves_restore_11 : decode b_Waves_restore 11 = .ok (.invokestatic 289, 3) := by decide +kernel
theorem d_Waves_restore_14 : decode b_Waves_restore 14 = .ok (.ifCond .ne 14, 3) := by decide +kernel
theorem d_Waves_restore_17 : decode b_Waves_restore 17 = .ok (.new 45, 3) := by decide +kernel
theorem d_Waves_restore_20 : decode b_Waves_restore 20 = .ok (.dup, 1) := by decide +kernel
theorem d_Waves_restore_21 : decode b_Waves_restore 21 = .ok (.ldc_w 343, 3) := by decide +kernel
theorem d_Waves_restore_24 : decode b_Waves_restore 24 = .ok (.invokespecial 49, 3) := by decide +kernel
theorem d_Waves_restore_27 : decode b_Waves_restore 27 = .ok (.athrow, 1) := by decide +kernel
theorem d_Waves_restore_28 : decode b_Waves_restore 28 = .ok (.aload_n 0, 1) := by decide +kernel
theorem d_Waves_restore_29 : decode b_Waves_restore 29 = .ok (.getfield 10, 3) := by decide +kernel
theorem d_Waves_restore_32 : decode b_Waves_restore 32 = .ok (.aload_n 0, 1) := by decide +kernel
theorem d_Waves_restore_33 : decode b_Waves_restore 33 = .ok (.iload_n 1, 1) := by decide +kernel
theorem d_Waves_restore_34 : decode b_Waves_restore 34 = .ok (.invokevirtual 336, 3) := by decide +kernel
theorem d_Waves_restore_37 : decode b_Waves_restore 37 = .ok (.invokevirtual 64, 3) := by decide +kernel
theorem d_Waves_restore_40 : decode b_Waves_restore 40 = .ok (.return_, 1) := by decide +kernel
def F_Waves_restore (a0 : Int32) (σ : zSt) : Option ((zSt) ⊕ String) :=
  (F_Waves_checkWithin a0 (0 : Int32) (1 : Int32) σ).bind fun q2 => match q2 with | .inr E10 => some (.inr E10) | .inl _ => (F_Waves_contains (σ.1 4 70 4) a0 σ).bind fun r4 => if r4 = 0 then some (.inr "java/lang/IllegalStateException") else ((F_Waves_savedIn a0 σ).bind fun r6 => (F_Village_copyFrom 0 r6 σ).bind fun σ8 => some (.inl σ8))
set_option maxHeartbeats 4000000 in
set_option maxRecDepth 100000 in
theorem c_Waves_restore {l : Launch} (hst : l.stackTraces = false) {G : zLA} (hx : zxl G) {a0 : Int32} {σ : zSt} {out : (zSt) ⊕ String} (hf : F_Waves_restore a0 σ = some out) : zX l G y_Waves_restore (zws y_Waves_restore b_Waves_restore 2 none) rm_Waves_restore [.ref (zad G 4 70), .int a0] σ (cv_wu out σ) := by
  refine z_ofX (own := "VillageWaves") (lv := [(0, .ref (zad G 4 70)), (1, .int a0)]) (by decide +kernel) rfl rfl (Nat.le_of_ble_eq_true rfl) (fun p e s m args below meth c C X0 => ?_)
  have X : zXx l c := ⟨hst, X0⟩
  rw [F_Waves_restore] at hf
  refine z_iload_n C d_Waves_restore_0 1 rfl rfl ?_
  refine z_iconst C d_Waves_restore_1 zki_0 ?_
  refine z_iconst C d_Waves_restore_2 zki_1 ?_
  obtain ⟨q2, h1, hf⟩ := bd_s hf
  cases q2 with
  | inr E10 =>
    cases hf
    exact z_tXSv C kl_Waves_56 (c_Waves_checkWithin X.1 h1) rfl rfl (Nat.le_of_ble_eq_true rfl) ⟨(Nat.le_of_ble_eq_true rfl), (Nat.le_of_ble_eq_true rfl)⟩ ⟨(Nat.le_of_ble_eq_true rfl), (Nat.le_of_ble_eq_true rfl)⟩ d_Waves_restore_3 X rfl (Nat.le_of_ble_eq_true rfl) (Nat.le_of_ble_eq_true rfl)
  | inl _ =>
    refine z_cXSv C kl_Waves_56 (c_Waves_checkWithin X.1 h1) rfl rfl (Nat.le_of_ble_eq_true rfl) ⟨(Nat.le_of_ble_eq_true rfl), (Nat.le_of_ble_eq_true rfl)⟩ ⟨(Nat.le_of_ble_eq_true rfl), (Nat.le_of_ble_eq_true rfl)⟩ d_Waves_restore_3 ?_
    refine z_aload_n C d_Waves_restore_6 0 rfl rfl ?_
    refine gf_Waves_25 C (zx4 hx 70 rfl) rfl rfl d_Waves_restore_7 ?_
    refine z_iload_n C d_Waves_restore_10 1 rfl rfl ?_
    obtain ⟨r4, h3, hf⟩ := bd_s hf
    refine z_cSi C kl_Waves_289 (c_Waves_contains h3) rfl rfl (Nat.le_of_ble_eq_true rfl) ⟨(Nat.le_of_ble_eq_true rfl), (Nat.le_of_ble_eq_true rfl)⟩ ⟨(Nat.le_of_ble_eq_true rfl), (Nat.le_of_ble_eq_true rfl)⟩ d_Waves_restore_11 ?_
    refine z_if_ne (tgt := 28) C d_Waves_restore_14 rfl (fun h9 => ?_) (fun h9 => ?_)
    · have hf := iff_f hf h9
      refine z_aload_n C d_Waves_restore_28 0 rfl rfl ?_
      refine gf_Waves_10 C (zx4 hx 70 rfl) rfl rfl d_Waves_restore_29 ?_
      refine z_aload_n C d_Waves_restore_32 0 rfl rfl ?_
      refine z_iload_n C d_Waves_restore_33 1 rfl rfl ?_
      obtain ⟨r6, h5, hf⟩ := bd_s hf
      have hr6 : zvl G r6 := hx.2 _ (lt4_Waves_savedIn h5)
      refine z_cVr C kl_Waves_336 rfl (c_Waves_savedIn hx h5) (zx4 hx 70 rfl) rfl rfl rfl (Nat.le_of_ble_eq_true rfl) ⟨(Nat.le_of_ble_eq_true rfl), (Nat.le_of_ble_eq_true rfl)⟩ ⟨(Nat.le_of_ble_eq_true rfl), (Nat.le_of_ble_eq_true rfl)⟩ d_Waves_restore_34 ?_
      obtain ⟨σ8, h7, hf⟩ := bd_s hf
      refine z_cVv C kl_Waves_64 rfl (c_Village_copyFrom (zxv hx 0 rfl) hr6 h7) (zlv (zxv hx 0 rfl) 0 rfl) rfl rfl rfl (Nat.le_of_ble_eq_true rfl) ⟨(Nat.le_of_ble_eq_true rfl), (Nat.le_of_ble_eq_true rfl)⟩ ⟨(Nat.le_of_ble_eq_true rfl), (Nat.le_of_ble_eq_true rfl)⟩ d_Waves_restore_37 ?_
      cases hf
      refine z_xret rfl ?_
      exact z_vret C rfl (Nat.le_of_ble_eq_true rfl) (Nat.le_of_ble_eq_true rfl) d_Waves_restore_40
    · have hf := iff_t hf h9
      cases hf
      exact zth_49_343 C X rfl d_Waves_restore_17 d_Waves_restore_20 d_Waves_restore_21 d_Waves_restore_24 d_Waves_restore_27 (Nat.le_of_ble_eq_true rfl) (Nat.le_of_ble_eq_true rfl) (Nat.le_of_ble_eq_true rfl) (Nat.le_of_ble_eq_true rfl) (Nat.le_of_ble_eq_true rfl) (Nat.le_of_ble_eq_true rfl)
