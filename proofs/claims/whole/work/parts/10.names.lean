/-- enough steps for every loop of one call -/
def zK : Nat := 100000
theorem zin_of {ws : List Cond} (is : List Nat) (h : ws = is.filterMap (fun i => lw_tbl[i]?)) (hg : ws.all goodWord = true) : ∀ w ∈ ws, w ∈ zGW := by
  intro w hw
  have h1 := List.all_eq_true.mp hg w hw
  rw [h] at hw
  obtain ⟨i, -, hi⟩ := List.mem_filterMap.mp hw
  exact zgw i hi h1
theorem znb {v : Int32} (h : v = 0 ∨ v = 1) : narrow .boolean (.int v) = .int v := by rcases h with rfl | rfl <;> rfl
/-- a row's two cells -/
def zrow (g o : Nat) : Prop := (g, o) ∈ zcells ∧ (g, o + 1) ∈ zcells ∧ (∀ (G : zLA) (f : Nat → Int32) (w : Int64) (d : UInt64), zshp G g o f w d = .inr (4, [.ref (zad G g (o + 1))])) ∧ (∀ (G : zLA) (f : Nat → Int32) (w : Int64) (d : UInt64), zshp G g (o + 1) f w d = .inl (zaC G 0, zrl (o + 1), .inl f))
def zarr (g o : Nat) : Prop := (g, o) ∈ zcells ∧ (∀ (G : zLA) (f : Nat → Int32) (w : Int64) (d : UInt64), zshp G g o f w d = .inl (zaC G 0, zrl o, .inl f))
def zent (o : Nat) : Prop := o = 43 ∨ o = 48
theorem zlv {v : Nat} (hv : v < 4) (o : Nat) (ho : Nat.ble (o + 1) 62 = true) : (v, o) ∈ zcells := by
  have ho : o < 62 := Nat.le_of_ble_eq_true ho
  exact List.mem_append_left _ (List.mem_flatMap.mpr ⟨v, List.mem_range.mpr hv, List.mem_map.mpr ⟨o, List.mem_range.mpr ho, rfl⟩⟩)
theorem zl4_of (o : Nat) (h : [70, 71, 72, 73, 74, 80, 81, 82, 83, 84, 85, 86, 87, 88, 89, 90, 95, 96].contains o = true) : (4, o) ∈ zcells :=
  List.mem_append_right _ (List.mem_map.mpr ⟨o, List.contains_iff_mem.mp h, rfl⟩)
def zisr (o : Nat) : Bool := zrows.contains o
theorem zrow_shp {g o : Nat} (h : zisr o = true) : (∀ (G : zLA) (f : Nat → Int32) (w : Int64) (d : UInt64), zshp G g o f w d = .inr (4, [.ref (zad G g (o + 1))])) ∧ (∀ (G : zLA) (f : Nat → Int32) (w : Int64) (d : UInt64), zshp G g (o + 1) f w d = .inl (zaC G 0, zrl (o + 1), .inl f)) := by
  have h1 : o ∈ zrows := List.contains_iff_mem.mp h
  simp only [zrows, List.mem_cons, List.not_mem_nil, or_false] at h1
  rcases h1 with rfl | rfl | rfl | rfl | rfl | rfl | rfl | rfl | rfl | rfl | rfl | rfl | rfl | rfl | rfl | rfl | rfl | rfl | rfl | rfl | rfl | rfl | rfl | rfl | rfl | rfl | rfl | rfl | rfl <;> exact ⟨fun _ _ _ _ => rfl, fun _ _ _ _ => rfl⟩
theorem zrow_v {v : Nat} (hv : v < 4) (o : Nat) (ho : (zisr o && Nat.ble (o + 2) 62) = true) : zrow v o := by
  simp only [Bool.and_eq_true] at ho
  have h2 : o + 2 ≤ 62 := Nat.le_of_ble_eq_true ho.2
  exact ⟨zlv hv o (Nat.ble_eq.mpr (by omega)), zlv hv (o + 1) (Nat.ble_eq.mpr (by omega)), (zrow_shp ho.1).1, (zrow_shp ho.1).2⟩
theorem zrow4_73 : zrow 4 73 := ⟨zl4_of 73 rfl, zl4_of 74 rfl, fun _ _ _ _ => rfl, fun _ _ _ _ => rfl⟩
theorem zent_in {v o : Nat} (hv : v < 4) (ho : zent o) (k : Nat) (hk : Nat.ble k 4 = true) : (v, o + k) ∈ zcells := by
  have hk : k ≤ 4 := Nat.le_of_ble_eq_true hk
  rcases ho with rfl | rfl <;> exact zlv hv _ (Nat.ble_eq.mpr (by omega))
theorem zent_row {v o : Nat} (hv : v < 4) (ho : zent o) (k : Nat) (hk : (Nat.beq k 1 || Nat.beq k 3) = true) : zrow v (o + k) := by
  have hk : k = 1 ∨ k = 3 := by
    rcases Bool.or_eq_true _ _ ▸ hk with h | h
    · exact Or.inl (Nat.eq_of_beq_eq_true h)
    · exact Or.inr (Nat.eq_of_beq_eq_true h)
  rcases ho with rfl | rfl <;> rcases hk with rfl | rfl <;> exact zrow_v hv _ rfl
theorem zent_shp {o : Nat} (ho : zent o) (G : zLA) (g : Nat) (f : Nat → Int32) (w : Int64) (d : UInt64) : zshp G g o f w d = .inr (0, [.ref (zad G g (o + 1)), .ref (zad G g (o + 3))]) := by
  rcases ho with rfl | rfl <;> rfl
set_option maxRecDepth 100000 in
theorem zput80_all : ∀ x ∈ zcells, x.2 = 80 → x.1 = 4 := by decide +kernel
theorem zput80 (g : Nat) (h : (g, 80) ∈ zcells) : g = 4 := zput80_all (g, 80) h rfl
theorem zl4_70 : (4, 70) ∈ zcells := zl4_of 70 rfl
theorem zl4_71 : (4, 71) ∈ zcells := zl4_of 71 rfl
theorem zl4_72 : (4, 72) ∈ zcells := zl4_of 72 rfl
theorem zl4_73 : (4, 73) ∈ zcells := zl4_of 73 rfl
theorem zl4_74 : (4, 74) ∈ zcells := zl4_of 74 rfl
theorem zl4_80 : (4, 80) ∈ zcells := zl4_of 80 rfl
theorem zl4_81 : (4, 81) ∈ zcells := zl4_of 81 rfl
theorem zl4_82 : (4, 82) ∈ zcells := zl4_of 82 rfl
theorem zl4_83 : (4, 83) ∈ zcells := zl4_of 83 rfl
theorem zl4_84 : (4, 84) ∈ zcells := zl4_of 84 rfl
theorem zl4_85 : (4, 85) ∈ zcells := zl4_of 85 rfl
theorem zl4_86 : (4, 86) ∈ zcells := zl4_of 86 rfl
theorem zl4_87 : (4, 87) ∈ zcells := zl4_of 87 rfl
theorem zl4_88 : (4, 88) ∈ zcells := zl4_of 88 rfl
theorem zl4_89 : (4, 89) ∈ zcells := zl4_of 89 rfl
theorem zl4_90 : (4, 90) ∈ zcells := zl4_of 90 rfl
theorem zl4_95 : (4, 95) ∈ zcells := zl4_of 95 rfl
theorem zl4_96 : (4, 96) ∈ zcells := zl4_of 96 rfl
theorem zmmax_s : Cond.static Lib.Math.max.name ∈ zGW := zgw 139 (by decide +kernel) (by decide +kernel)
theorem zmmax_c : Cond.code Lib.Math.max.name Lib.Math.max.code 2 (some .int) ∈ zGW := zgw 140 (by decide +kernel) (by decide +kernel)
theorem zm_i : Cond.initialized "java/lang/Math" ∈ zGW := zgw 97 (by decide +kernel) (by decide +kernel)
theorem z_mmax {G : zLA} {p : Program} {l : Launch} {e : Env} {R : Room} {s : State} {m : MethodId} {args : Array Value} {below : List Frame} {meth : Method} {c : Code} {cells slots : Nat} {Q : State → Prop} {own : String} {cc : ByteArray} {nL : Nat} {ret : Option FieldType} {pc : Nat} {lv : List (Nat × Value)} {st : List Value} {σ : zSt} (C : zCx G p s m args meth c own cc nL ret) {index : Nat} {y0 : MethodName} (hlink : Cond.methodLink own index y0 ∈ zGW) (hy : y0 = Lib.Math.max.name) (hrest : (st.map fun v => v.category).sum ≤ 8) (hframes : 1 ≤ R.frames) (hlocals : 21 ≤ R.locals) (hc : cells ≤ R.cells) (hs : slots ≤ R.slots) {x y : Int32} (d : decode cc pc = .ok (.invokestatic index, 3)) (kk : zWV G p l e R s m args below meth c nL cells slots Q (pc + 3) lv (.int (if x < y then y else x) :: st) σ) : zWV G p l e R s m args below meth c nL cells slots Q pc lv (.int y :: .int x :: st) σ := by
  subst hy
  exact fun ls H locs hl hP hD hS => va_mmax C.x C.b (C.n.trans hl.1.symm) C.o (C.t _ hlink) (C.t _ zmmax_s) (C.t _ zm_i) (C.t _ zmmax_c) hframes (by omega) hc hs d (kk ls H locs hl hP hD hS)
theorem zmmin_s : Cond.static Lib.Math.min.name ∈ zGW := zgw 498 (by decide +kernel) (by decide +kernel)
theorem zmmin_c : Cond.code Lib.Math.min.name Lib.Math.min.code 2 (some .int) ∈ zGW := zgw 499 (by decide +kernel) (by decide +kernel)
theorem z_mmin {G : zLA} {p : Program} {l : Launch} {e : Env} {R : Room} {s : State} {m : MethodId} {args : Array Value} {below : List Frame} {meth : Method} {c : Code} {cells slots : Nat} {Q : State → Prop} {own : String} {cc : ByteArray} {nL : Nat} {ret : Option FieldType} {pc : Nat} {lv : List (Nat × Value)} {st : List Value} {σ : zSt} (C : zCx G p s m args meth c own cc nL ret) {index : Nat} {y0 : MethodName} (hlink : Cond.methodLink own index y0 ∈ zGW) (hy : y0 = Lib.Math.min.name) (hrest : (st.map fun v => v.category).sum ≤ 8) (hframes : 1 ≤ R.frames) (hlocals : 21 ≤ R.locals) (hc : cells ≤ R.cells) (hs : slots ≤ R.slots) {x y : Int32} (d : decode cc pc = .ok (.invokestatic index, 3)) (kk : zWV G p l e R s m args below meth c nL cells slots Q (pc + 3) lv (.int (if y < x then y else x) :: st) σ) : zWV G p l e R s m args below meth c nL cells slots Q pc lv (.int y :: .int x :: st) σ := by
  subst hy
  exact fun ls H locs hl hP hD hS => va_mmin C.x C.b (C.n.trans hl.1.symm) C.o (C.t _ hlink) (C.t _ zmmin_s) (C.t _ zm_i) (C.t _ zmmin_c) hframes (by omega) hc hs d (kk ls H locs hl hP hD hS)

theorem zin_0 : ∀ w ∈ u_ws "VillageWaves$Entries" zT0 2, w ∈ zGW := zin_of [275, 277] (by decide +kernel) (by decide +kernel)
theorem zin_1 : ∀ w ∈ u_ws "VillageWaves$Homes" zT1 11, w ∈ zGW := zin_of [185, 187, 189, 191, 193, 195, 197, 199, 201, 203, 205] (by decide +kernel) (by decide +kernel)
theorem zin_2 : ∀ w ∈ u_ws "VillageWaves$Journal" zT2 2, w ∈ zGW := zin_of [291, 293] (by decide +kernel) (by decide +kernel)
theorem zin_3 : ∀ w ∈ u_ws "VillageWaves$Reader" zT3 3, w ∈ zGW := zin_of [432, 434, 436] (by decide +kernel) (by decide +kernel)
theorem zin_4 : ∀ w ∈ u_ws "VillageWaves$Row" zT4 1, w ∈ zGW := zin_of [142] (by decide +kernel) (by decide +kernel)
theorem zin_5 : ∀ w ∈ u_ws "VillageWaves$Text" zT5 6, w ∈ zGW := zin_of [413, 415, 417, 419, 421, 423] (by decide +kernel) (by decide +kernel)
theorem zin_6 : ∀ w ∈ u_ws "VillageWaves$Tidings" zT6 10, w ∈ zGW := zin_of [243, 245, 247, 249, 251, 253, 255, 257, 259, 261] (by decide +kernel) (by decide +kernel)
theorem zin_7 : ∀ w ∈ u_ws "VillageWaves$Village" zT7 13, w ∈ zGW := zin_of [362, 364, 366, 368, 370, 372, 374, 376, 378, 380, 382, 384, 386] (by decide +kernel) (by decide +kernel)
theorem zin_8 : ∀ w ∈ u_ws "VillageWaves" zT8 6, w ∈ zGW := zin_of [445, 447, 449, 451, 453, 455] (by decide +kernel) (by decide +kernel)
theorem zin_9 : ∀ w ∈ u_ws "VillageWavesModel" zT9 24, w ∈ zGW := zin_of [1291, 1293, 1295, 1297, 1299, 1301, 1303, 1305, 1307, 1309, 1311, 1313, 1315, 1317, 1319, 1321, 1323, 1325, 1327, 1329, 1331, 1333, 1335, 1337] (by decide +kernel) (by decide +kernel)
theorem zkb_8 : (Int8.ofInt 8).toInt32 = (8 : Int32) := by decide
theorem zkb_16 : (Int8.ofInt 16).toInt32 = (16 : Int32) := by decide
theorem zkb_63 : (Int8.ofInt 63).toInt32 = (63 : Int32) := by decide
theorem zki_m1 : Int32.ofInt (-1) = (-1 : Int32) := by decide
theorem zki_0 : Int32.ofInt 0 = (0 : Int32) := by decide
theorem zki_1 : Int32.ofInt 1 = (1 : Int32) := by decide
theorem zki_2 : Int32.ofInt 2 = (2 : Int32) := by decide
theorem zki_4 : Int32.ofInt 4 = (4 : Int32) := by decide
theorem zq102 : (Cond.initialized "java/util/Arrays" : Cond) ∈ zGW := zgw 102 (by decide +kernel) (by decide +kernel)
theorem zq115 : (Cond.initialized "java/lang/System" : Cond) ∈ zGW := zgw 115 (by decide +kernel) (by decide +kernel)
theorem zq141 : (Cond.fieldLink "VillageWaves$Row" 13 "VillageWaves$Row" "cells" "[I" : Cond) ∈ zGW := zgw 141 (by decide +kernel) (by decide +kernel)
theorem zq325 : (Cond.methodLink "VillageWaves$Row" 19 ⟨"java/util/Arrays", "fill", "([II)V"⟩ : Cond) ∈ zGW := zgw 325 (by decide +kernel) (by decide +kernel)
theorem zq326 : (Cond.static ⟨"java/util/Arrays", "fill", "([II)V"⟩ : Cond) ∈ zGW := zgw 326 (by decide +kernel) (by decide +kernel)
theorem zq327 : (Cond.code ⟨"java/util/Arrays", "fill", "([II)V"⟩ prog_24_method_103_code 4 none : Cond) ∈ zGW := zgw 327 (by decide +kernel) (by decide +kernel)
theorem zq498 : (Cond.static ⟨"java/lang/Math", "min", "(II)I"⟩ : Cond) ∈ zGW := zgw 498 (by decide +kernel) (by decide +kernel)
theorem zq499 : (Cond.code ⟨"java/lang/Math", "min", "(II)I"⟩ prog_17_method_69_code 2 (some .int) : Cond) ∈ zGW := zgw 499 (by decide +kernel) (by decide +kernel)
theorem zq646 : (Cond.methodLink "VillageWaves$Row" 25 ⟨"java/lang/Math", "min", "(II)I"⟩ : Cond) ∈ zGW := zgw 646 (by decide +kernel) (by decide +kernel)
theorem zq647 : (Cond.methodLink "VillageWaves$Row" 28 ⟨"java/lang/System", "arraycopy", "(Ljava/lang/Object;ILjava/lang/Object;II)V"⟩ : Cond) ∈ zGW := zgw 647 (by decide +kernel) (by decide +kernel)
theorem zq648 : (Cond.static ⟨"java/lang/System", "arraycopy", "(Ljava/lang/Object;ILjava/lang/Object;II)V"⟩ : Cond) ∈ zGW := zgw 648 (by decide +kernel) (by decide +kernel)
theorem zq649 : (Cond.native ⟨"java/lang/System", "arraycopy", "(Ljava/lang/Object;ILjava/lang/Object;II)V"⟩ : Cond) ∈ zGW := zgw 649 (by decide +kernel) (by decide +kernel)
theorem zq966 : (Cond.constant "java/lang/Integer" 265 (1431655765 : Int32) : Cond) ∈ zGW := zgw 966 (by decide +kernel) (by decide +kernel)
theorem zq967 : (Cond.constant "java/lang/Integer" 266 (858993459 : Int32) : Cond) ∈ zGW := zgw 967 (by decide +kernel) (by decide +kernel)
theorem zq968 : (Cond.constant "java/lang/Integer" 267 (252645135 : Int32) : Cond) ∈ zGW := zgw 968 (by decide +kernel) (by decide +kernel)
abbrev b_Integer_bitCount : ByteArray := prog_16_method_49_code
abbrev y_Integer_bitCount : MethodName := ⟨"java/lang/Integer", "bitCount", "(I)I"⟩
abbrev b_Row_get : ByteArray := prog_6_method_2_code
abbrev y_Row_get : MethodName := ⟨"VillageWaves$Row", "get", "(I)I"⟩
abbrev b_Row_put : ByteArray := prog_6_method_3_code
abbrev y_Row_put : MethodName := ⟨"VillageWaves$Row", "put", "(II)V"⟩
abbrev b_Row_add : ByteArray := prog_6_method_4_code
abbrev y_Row_add : MethodName := ⟨"VillageWaves$Row", "add", "(II)V"⟩
abbrev b_Row_join : ByteArray := prog_6_method_5_code
abbrev y_Row_join : MethodName := ⟨"VillageWaves$Row", "join", "(II)V"⟩
abbrev b_Row_leave : ByteArray := prog_6_method_6_code
abbrev y_Row_leave : MethodName := ⟨"VillageWaves$Row", "leave", "(II)V"⟩
abbrev b_Arrays_fill : ByteArray := prog_24_method_103_code
abbrev y_Arrays_fill : MethodName := ⟨"java/util/Arrays", "fill", "([II)V"⟩
abbrev b_Row_fill : ByteArray := prog_6_method_7_code
abbrev y_Row_fill : MethodName := ⟨"VillageWaves$Row", "fill", "(I)V"⟩
abbrev b_Row_copyFrom : ByteArray := prog_6_method_8_code
abbrev y_Row_copyFrom : MethodName := ⟨"VillageWaves$Row", "copyFrom", "(LVillageWaves$Row;)V"⟩
theorem gf_Row_13 {G : zLA} {p : Program} {l : Launch} {e : Env} {R : Room} {s : State} {m : MethodId} {args : Array Value} {below : List Frame} {meth : Method} {c : Code} {cells slots : Nat} {Q : State → Prop} {cc : ByteArray} {nL : Nat} {ret : Option FieldType} {pc : Nat} {lv : List (Nat × Value)} {st : List Value} {σ : zSt} (C : zCx G p s m args meth c "VillageWaves$Row" cc nL ret) {g o : Nat} {fs : List Value} {v : Value} (hlive : (g, o) ∈ zcells) (he : zct G σ g o = .inr (4, fs)) (hv : fs[0]? = some v) (d : decode cc pc = .ok (.getfield 13, 3)) (kk : zWV G p l e R s m args below meth c nL cells slots Q (pc + 3) lv (v :: st) σ) : zWV G p l e R s m args below meth c nL cells slots Q pc lv (.ref (zad G g o) :: st) σ :=
  z_get C zin_4 rfl 0 (by decide) zq141 rfl hlive he hv d kk
theorem kl_Row_19 : zLS "VillageWaves$Row" 19 y_Arrays_fill b_Arrays_fill 4 none 2 := ⟨zq325, zq326, zq102, zq327, ⟨by decide, by decide, by decide +kernel⟩⟩
