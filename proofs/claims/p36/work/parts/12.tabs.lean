theorem zti {x : Int32} {k : Int32} {z : Int} (h : ¬ x = k) (hk : k.toInt = z) : x.toInt ≠ z := fun e => h (Int32.toInt_inj.mp (e.trans hk.symm))
theorem ztab_0_2 {x : Int32} (h0 : ¬ x = 0) (h1 : ¬ x = 1) (h2 : ¬ x = 2) : x.toInt < 0 ∨ 2 < x.toInt := by
  have g0 := zti (z := 0) h0 (by decide)
  have g1 := zti (z := 1) h1 (by decide)
  have g2 := zti (z := 2) h2 (by decide)
  omega
theorem ztab_0_3 {x : Int32} (h0 : ¬ x = 0) (h1 : ¬ x = 1) (h2 : ¬ x = 2) (h3 : ¬ x = 3) : x.toInt < 0 ∨ 3 < x.toInt := by
  have g0 := zti (z := 0) h0 (by decide)
  have g1 := zti (z := 1) h1 (by decide)
  have g2 := zti (z := 2) h2 (by decide)
  have g3 := zti (z := 3) h3 (by decide)
  omega
theorem ztab_0_8 {x : Int32} (h0 : ¬ x = 0) (h1 : ¬ x = 1) (h2 : ¬ x = 2) (h3 : ¬ x = 3) (h4 : ¬ x = 4) (h5 : ¬ x = 5) (h6 : ¬ x = 6) (h7 : ¬ x = 7) (h8 : ¬ x = 8) : x.toInt < 0 ∨ 8 < x.toInt := by
  have g0 := zti (z := 0) h0 (by decide)
  have g1 := zti (z := 1) h1 (by decide)
  have g2 := zti (z := 2) h2 (by decide)
  have g3 := zti (z := 3) h3 (by decide)
  have g4 := zti (z := 4) h4 (by decide)
  have g5 := zti (z := 5) h5 (by decide)
  have g6 := zti (z := 6) h6 (by decide)
  have g7 := zti (z := 7) h7 (by decide)
  have g8 := zti (z := 8) h8 (by decide)
  omega
theorem ztab_0_13 {x : Int32} (h0 : ¬ x = 0) (h1 : ¬ x = 1) (h2 : ¬ x = 2) (h3 : ¬ x = 3) (h4 : ¬ x = 4) (h5 : ¬ x = 5) (h6 : ¬ x = 6) (h7 : ¬ x = 7) (h8 : ¬ x = 8) (h9 : ¬ x = 9) (h10 : ¬ x = 10) (h11 : ¬ x = 11) (h12 : ¬ x = 12) (h13 : ¬ x = 13) : x.toInt < 0 ∨ 13 < x.toInt := by
  have g0 := zti (z := 0) h0 (by decide)
  have g1 := zti (z := 1) h1 (by decide)
  have g2 := zti (z := 2) h2 (by decide)
  have g3 := zti (z := 3) h3 (by decide)
  have g4 := zti (z := 4) h4 (by decide)
  have g5 := zti (z := 5) h5 (by decide)
  have g6 := zti (z := 6) h6 (by decide)
  have g7 := zti (z := 7) h7 (by decide)
  have g8 := zti (z := 8) h8 (by decide)
  have g9 := zti (z := 9) h9 (by decide)
  have g10 := zti (z := 10) h10 (by decide)
  have g11 := zti (z := 11) h11 (by decide)
  have g12 := zti (z := 12) h12 (by decide)
  have g13 := zti (z := 13) h13 (by decide)
  omega
theorem ztab_5_13 {x : Int32} (h5 : ¬ x = 5) (h6 : ¬ x = 6) (h7 : ¬ x = 7) (h8 : ¬ x = 8) (h9 : ¬ x = 9) (h10 : ¬ x = 10) (h11 : ¬ x = 11) (h12 : ¬ x = 12) (h13 : ¬ x = 13) : x.toInt < 5 ∨ 13 < x.toInt := by
  have g5 := zti (z := 5) h5 (by decide)
  have g6 := zti (z := 6) h6 (by decide)
  have g7 := zti (z := 7) h7 (by decide)
  have g8 := zti (z := 8) h8 (by decide)
  have g9 := zti (z := 9) h9 (by decide)
  have g10 := zti (z := 10) h10 (by decide)
  have g11 := zti (z := 11) h11 (by decide)
  have g12 := zti (z := 12) h12 (by decide)
  have g13 := zti (z := 13) h13 (by decide)
  omega
theorem zlook_out {x : Int32} (h0 : ¬ x = 0) (h1 : ¬ x = 1) : Op.lookupswitch.offset [(0, 25), (1, 43)] 61 x.toInt = 61 := by
  have g0 := zti (z := 0) h0 (by decide)
  have g1 := zti (z := 1) h1 (by decide)
  simp [Op.lookupswitch.offset, List.find?, g0, g1, Ne.symm g0, Ne.symm g1]
def zn64 (r : UInt64) : Bool := decide (r &&& 0x7fffffffffffffff ≤ 0x7ff0000000000000)
def zn32 (r : UInt32) : Bool := decide (r &&& 0x7fffffff ≤ 0x7f800000)
theorem z_dret {G : zLA} {p : Program} {l : Launch} {e : Env} {R : Room} {s : State} {m : MethodId} {args : Array Value} {below : List Frame} {meth : Method} {c : Code} {cells slots : Nat} {own : String} {cc : ByteArray} {nL : Nat} {ret : Option FieldType} {pc : Nat} {lv : List (Nat × Value)} {σ : zSt} (C : zCx G p s m args meth c own cc nL ret) {rm : Room} {v : UInt64} (hr : ret = some .double) (hc : cells ≤ rm.cells) (hs : slots ≤ rm.slots) (d : decode cc pc = .ok (.dreturn, 1)) : zWV G p l e R s m args below meth c nL cells slots (zQ G below args s rm (some (.double v)) σ) pc lv [.double v] σ := by
  intro ls H locs hl hP hD hS
  refine W.widen hc hs ?_
  exact W.dret C.x C.b (C.r.trans hr) (fun t ht hW => ⟨⟨rfl, by rw [ht]; exact hP⟩, hS.F ht⟩) hS.2.2 d C.k
theorem z_fret {G : zLA} {p : Program} {l : Launch} {e : Env} {R : Room} {s : State} {m : MethodId} {args : Array Value} {below : List Frame} {meth : Method} {c : Code} {cells slots : Nat} {own : String} {cc : ByteArray} {nL : Nat} {ret : Option FieldType} {pc : Nat} {lv : List (Nat × Value)} {σ : zSt} (C : zCx G p s m args meth c own cc nL ret) {rm : Room} {v : UInt32} (hr : ret = some .float) (hc : cells ≤ rm.cells) (hs : slots ≤ rm.slots) (d : decode cc pc = .ok (.freturn, 1)) : zWV G p l e R s m args below meth c nL cells slots (zQ G below args s rm (some (.float v)) σ) pc lv [.float v] σ := by
  intro ls H locs hl hP hD hS
  refine W.widen hc hs ?_
  exact W.fret C.x C.b (C.r.trans hr) (fun t ht hW => ⟨⟨rfl, by rw [ht]; exact hP⟩, hS.F ht⟩) hS.2.2 d C.k
