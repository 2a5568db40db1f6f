theorem zn64_n {r : UInt64} (h : zn64 r = true) : vf_n64 r := by
  unfold vf_n64
  unfold zn64 at h
  exact of_decide_eq_true h
theorem zn32_n {r : UInt32} (h : zn32 r = true) : vf_n32 r := by
  unfold vf_n32
  unfold zn32 at h
  exact of_decide_eq_true h
theorem z_ldcfgo {p : Program} {l : Launch} {e : Env} {R : Room} {s : State} {m : MethodId} {args : Array Value} {below : List Frame} {meth : Method} {c : Code} {locs : List Loc} {cells slots : Nat} {T : State} (X : Stand p l e R s m args below meth c T locs cells slots) (hexec : p.tables.exec = Jvm.exec) {own : String} {index : Nat} {v : UInt32} (hown : s.vm.findClass own = some m.cls)
    (hconst : (Cond.constantFloat own index v).before args s = true) {g : JFrame} (hg : g.method = m) (hdg : decode c.code g.pc = .ok (.ldc_w index, 3)) :
    ∀ target, Steps p.tables e below (T.setTop { g with pc := g.pc + 3, stack := .float v :: g.stack }) target → Steps p.tables e below (T.setTop g) target := by
  obtain ⟨k, cf, hk, hcf, hcp⟩ := Cond.constantFloat_spec hown hconst
  obtain ⟨k', hk', he⟩ := X.warmed.alike.2.2 _ _ hk
  intro target hrest
  subst hg
  jvm_step X.here [hexec, hdg, ldc_w.wp_float (s := T) (f := g) X.here.top hk' (by rw [he]; exact hcf) hcp]
  exact hrest
theorem z_ldcfw {G : zLA} {p : Program} {l : Launch} {e : Env} {R : Room} {s : State} {m : MethodId} {args : Array Value} {below : List Frame} {meth : Method} {c : Code} {cells slots : Nat} {Q : State → Prop} {own : String} {cc : ByteArray} {nL : Nat} {ret : Option FieldType} {pc : Nat} {lv : List (Nat × Value)} {st : List Value} {σ : zSt} (C : zCx G p s m args meth c own cc nL ret) {index : Nat} {v : UInt32} (d : decode cc pc = .ok (.ldc_w index, 3)) (hq : Cond.constantFloat own index v ∈ zGW) (k : zWV G p l e R s m args below meth c nL cells slots Q (pc + 3) lv (.float v :: st) σ) : zWV G p l e R s m args below meth c nL cells slots Q pc lv st σ := by
  intro ls H locs hl hP hD hS T hT X
  obtain ⟨t, a, b⟩ := k ls H locs hl hP hD hS T hT X
  exact ⟨t, z_ldcfgo X C.x C.o (C.t _ hq) (g := F0 m pc ls st) rfl (by rw [C.b]; exact d) t a, b⟩
