/-- enough steps for every loop of one call -/
def zK : Nat := 100000
theorem zin_of {ws : List Cond} (is : List Nat) (h : ws = is.filterMap (fun i => lw_tbl[i]?)) (hg : ws.all goodWord = true) : ∀ w ∈ ws, w ∈ zGW := by
  intro w hw
  have h1 := List.all_eq_true.mp hg w hw
  rw [h] at hw
  obtain ⟨i, -, hi⟩ := List.mem_filterMap.mp hw
  exact zgw i hi h1
theorem znb {v : Int32} (h : v = 0 ∨ v = 1) : narrow .boolean (.int v) = .int v := by rcases h with rfl | rfl <;> rfl
/-- a row's two cells -/
def zrow (G : zLA) (g o : Nat) : Prop := (g, o) ∈ zL G ∧ (g, o + 1) ∈ zL G ∧ (∀ (G : zLA) (f : Nat → Int32) (w : Int64) (d : UInt64), zshp G g o f w d = .inr (4, [.ref (zad G g (o + 1))])) ∧ (∀ (G : zLA) (f : Nat → Int32) (w : Int64) (d : UInt64), zshp G g (o + 1) f w d = .inl (zaC G 0, zrl (o + 1), .inl f))
def zarr (G : zLA) (g o : Nat) : Prop := (g, o) ∈ zL G ∧ (∀ (G : zLA) (f : Nat → Int32) (w : Int64) (d : UInt64), zshp G g o f w d = .inl (zaC G 0, zrl o, .inl f))
def zent (o : Nat) : Prop := o = 43 ∨ o = 48
/-- a village's cells are there -/
def zvl (G : zLA) (v : Nat) : Prop := ∀ o, o < 62 → (v, o) ∈ zL G
/-- the class's own cells are there; the model's -/
def zxl (G : zLA) : Prop := (∀ o, 70 ≤ o → o ≤ 74 → (4, o) ∈ zL G) ∧ ∀ v, v < 4 → zvl G v
def zml (G : zLA) : Prop := ∀ o, 80 ≤ o → o ≤ 90 → (4, o) ∈ zL G
theorem zlv {G : zLA} {v : Nat} (hv : zvl G v) (o : Nat) (ho : Nat.ble (o + 1) 62 = true) : (v, o) ∈ zL G := hv o (Nat.le_of_ble_eq_true ho)
theorem zx4 {G : zLA} (hx : zxl G) (o : Nat) (ho : (Nat.ble 70 o && Nat.ble o 74) = true) : (4, o) ∈ zL G := by
  simp only [Bool.and_eq_true] at ho
  exact hx.1 o (Nat.le_of_ble_eq_true ho.1) (Nat.le_of_ble_eq_true ho.2)
theorem zm4 {G : zLA} (hm : zml G) (o : Nat) (ho : (Nat.ble 80 o && Nat.ble o 90) = true) : (4, o) ∈ zL G := by
  simp only [Bool.and_eq_true] at ho
  exact hm o (Nat.le_of_ble_eq_true ho.1) (Nat.le_of_ble_eq_true ho.2)
theorem zxv {G : zLA} (hx : zxl G) (v : Nat) (hv : Nat.ble (v + 1) 4 = true) : zvl G v := hx.2 v (Nat.le_of_ble_eq_true hv)
def zisr (o : Nat) : Bool := zrows.contains o
theorem zrow_shp {g o : Nat} (h : zisr o = true) : (∀ (G : zLA) (f : Nat → Int32) (w : Int64) (d : UInt64), zshp G g o f w d = .inr (4, [.ref (zad G g (o + 1))])) ∧ (∀ (G : zLA) (f : Nat → Int32) (w : Int64) (d : UInt64), zshp G g (o + 1) f w d = .inl (zaC G 0, zrl (o + 1), .inl f)) := by
  have h1 : o ∈ zrows := List.contains_iff_mem.mp h
  simp only [zrows, List.mem_cons, List.not_mem_nil, or_false] at h1
  rcases h1 with rfl | rfl | rfl | rfl | rfl | rfl | rfl | rfl | rfl | rfl | rfl | rfl | rfl | rfl | rfl | rfl | rfl | rfl | rfl | rfl | rfl | rfl | rfl | rfl | rfl | rfl | rfl | rfl | rfl <;> exact ⟨fun _ _ _ _ => rfl, fun _ _ _ _ => rfl⟩
theorem zrow_v {G : zLA} {v : Nat} (hv : zvl G v) (o : Nat) (ho : (zisr o && Nat.ble (o + 2) 62) = true) : zrow G v o := by
  simp only [Bool.and_eq_true] at ho
  have h2 : o + 2 ≤ 62 := Nat.le_of_ble_eq_true ho.2
  exact ⟨hv o (by omega), hv (o + 1) (by omega), (zrow_shp ho.1).1, (zrow_shp ho.1).2⟩
theorem zrow4_73 {G : zLA} (hx : zxl G) : zrow G 4 73 := ⟨zx4 hx 73 rfl, zx4 hx 74 rfl, fun _ _ _ _ => rfl, fun _ _ _ _ => rfl⟩
theorem zent_in {G : zLA} {v o : Nat} (hv : zvl G v) (ho : zent o) (k : Nat) (hk : Nat.ble k 4 = true) : (v, o + k) ∈ zL G := by
  have hk : k ≤ 4 := Nat.le_of_ble_eq_true hk
  rcases ho with rfl | rfl <;> exact hv _ (by omega)
theorem zent_row {G : zLA} {v o : Nat} (hv : zvl G v) (ho : zent o) (k : Nat) (hk : (Nat.beq k 1 || Nat.beq k 3) = true) : zrow G v (o + k) := by
  have hk : k = 1 ∨ k = 3 := by
    rcases Bool.or_eq_true _ _ ▸ hk with h | h
    · exact Or.inl (Nat.eq_of_beq_eq_true h)
    · exact Or.inr (Nat.eq_of_beq_eq_true h)
  rcases ho with rfl | rfl <;> rcases hk with rfl | rfl <;> exact zrow_v hv _ rfl
theorem zent_shp {o : Nat} (ho : zent o) (G : zLA) (g : Nat) (f : Nat → Int32) (w : Int64) (d : UInt64) : zshp G g o f w d = .inr (0, [.ref (zad G g (o + 1)), .ref (zad G g (o + 3))]) := by
  rcases ho with rfl | rfl <;> rfl
theorem zmmax_s : Cond.static Lib.Math.max.name ∈ zGW := zgw 139 (by decide +kernel) (by decide +kernel)
theorem zmmax_c : Cond.code Lib.Math.max.name Lib.Math.max.code 2 (some .int) ∈ zGW := zgw 140 (by decide +kernel) (by decide +kernel)
theorem zm_i : Cond.initialized "java/lang/Math" ∈ zGW := zgw 97 (by decide +kernel) (by decide +kernel)
theorem z_mmax {G : zLA} {p : Program} {l : Launch} {e : Env} {R : Room} {s : State} {m : MethodId} {args : Array Value} {below : List Frame} {meth : Method} {c : Code} {cells slots : Nat} {Q : State → Prop} {own : String} {cc : ByteArray} {nL : Nat} {ret : Option FieldType} {pc : Nat} {lv : List (Nat × Value)} {st : List Value} {σ : zSt} (C : zCx G p s m args meth c own cc nL ret) {index : Nat} {y0 : MethodName} (hlink : Cond.methodLink own index y0 ∈ zGW) (hy : y0 = Lib.Math.max.name) (hrest : (st.map fun v => v.category).sum ≤ 8) (hframes : 1 ≤ R.frames) (hlocals : 21 ≤ R.locals) (hc : cells ≤ R.cells) (hs : slots ≤ R.slots) {x y : Int32} (d : decode cc pc = .ok (.invokestatic index, 3)) (kk : zWV G p l e R s m args below meth c nL cells slots Q (pc + 3) lv (.int (if x < y then y else x) :: st) σ) : zWV G p l e R s m args below meth c nL cells slots Q pc lv (.int y :: .int x :: st) σ := by
  subst hy
  exact fun ls H locs hl hP hD hS => va_mmax C.x C.b (C.n.trans hl.1.symm) C.o (C.t _ hlink) (C.t _ zmmax_s) (C.t _ zm_i) (C.t _ zmmax_c) hframes (by omega) hc hs d (kk ls H locs hl hP hD hS)
theorem zmmin_s : Cond.static Lib.Math.min.name ∈ zGW := zgw 498 (by decide +kernel) (by decide +kernel)
theorem zmmin_c : Cond.code Lib.Math.min.name Lib.Math.min.code 2 (some .int) ∈ zGW := zgw 499 (by decide +kernel) (by decide +kernel)
theorem z_mmin {G : zLA} {p : Program} {l : Launch} {e : Env} {R : Room} {s : State} {m : MethodId} {args : Array Value} {below : List Frame} {meth : Method} {c : Code} {cells slots : Nat} {Q : State → Prop} {own : String} {cc : ByteArray} {nL : Nat} {ret : Option FieldType} {pc : Nat} {lv : List (Nat × Value)} {st : List Value} {σ : zSt} (C : zCx G p s m args meth c own cc nL ret) {index : Nat} {y0 : MethodName} (hlink : Cond.methodLink own index y0 ∈ zGW) (hy : y0 = Lib.Math.min.name) (hrest : (st.map fun v => v.category).sum ≤ 8) (hframes : 1 ≤ R.frames) (hlocals : 21 ≤ R.locals) (hc : cells ≤ R.cells) (hs : slots ≤ R.slots) {x y : Int32} (d : decode cc pc = .ok (.invokestatic index, 3)) (kk : zWV G p l e R s m args below meth c nL cells slots Q (pc + 3) lv (.int (if y < x then y else x) :: st) σ) : zWV G p l e R s m args below meth c nL cells slots Q pc lv (.int y :: .int x :: st) σ := by
  subst hy
  exact fun ls H locs hl hP hD hS => va_mmin C.x C.b (C.n.trans hl.1.symm) C.o (C.t _ hlink) (C.t _ zmmin_s) (C.t _ zm_i) (C.t _ zmmin_c) hframes (by omega) hc hs d (kk ls H locs hl hP hD hS)

theorem zin_0 : ∀ w ∈ u_ws "VillageWaves$Entries" zT0 2, w ∈ zGW := zin_of [275, 277] (by decide +kernel) (by decide +kernel)
theorem zin_1 : ∀ w ∈ u_ws "VillageWaves$Homes" zT1 11, w ∈ zGW := zin_of [185, 187, 189, 191, 193, 195, 197, 199, 201, 203, 205] (by decide +kernel) (by decide +kernel)
theorem zin_2 : ∀ w ∈ u_ws "VillageWaves$Journal" zT2 2, w ∈ zGW := zin_of [291, 293] (by decide +kernel) (by decide +kernel)
theorem zin_3 : ∀ w ∈ u_ws "VillageWaves$Reader" zT3 3, w ∈ zGW := zin_of [432, 434, 436] (by decide +kernel) (by decide +kernel)
theorem zin_4 : ∀ w ∈ u_ws "VillageWaves$Row" zT4 1, w ∈ zGW := zin_of [142] (by decide +kernel) (by decide +kernel)
theorem zin_5 : ∀ w ∈ u_ws "VillageWaves$Text" zT5 6, w ∈ zGW := zin_of [413, 415, 417, 419, 421, 423] (by decide +kernel) (by decide +kernel)
theorem zin_6 : ∀ w ∈ u_ws "VillageWaves$Tidings" zT6 10, w ∈ zGW := zin_of [243, 245, 247, 249, 251, 253, 255, 257, 259, 261] (by decide +kernel) (by decide +kernel)
theorem zin_7 : ∀ w ∈ u_ws "VillageWaves$Village" zT7 13, w ∈ zGW := zin_of [362, 364, 366, 368, 370, 372, 374, 376, 378, 380, 382, 384, 386] (by decide +kernel) (by decide +kernel)
theorem zin_8 : ∀ w ∈ u_ws "VillageWaves" zT8 6, w ∈ zGW := zin_of [445, 447, 449, 451, 453, 455] (by decide +kernel) (by decide +kernel)
theorem zin_9 : ∀ w ∈ u_ws "VillageWavesModel" zT9 24, w ∈ zGW := zin_of [1291, 1293, 1295, 1297, 1299, 1301, 1303, 1305, 1307, 1309, 1311, 1313, 1315, 1317, 1319, 1321, 1323, 1325, 1327, 1329, 1331, 1333, 1335, 1337] (by decide +kernel) (by decide +kernel)
theorem zkb_m4 : (Int8.ofInt (-4)).toInt32 = (-4 : Int32) := by decide
theorem zkb_m3 : (Int8.ofInt (-3)).toInt32 = (-3 : Int32) := by decide
theorem zkb_m2 : (Int8.ofInt (-2)).toInt32 = (-2 : Int32) := by decide
theorem zkb_6 : (Int8.ofInt 6).toInt32 = (6 : Int32) := by decide
theorem zkb_7 : (Int8.ofInt 7).toInt32 = (7 : Int32) := by decide
theorem zkb_8 : (Int8.ofInt 8).toInt32 = (8 : Int32) := by decide
theorem zkb_9 : (Int8.ofInt 9).toInt32 = (9 : Int32) := by decide
theorem zkb_10 : (Int8.ofInt 10).toInt32 = (10 : Int32) := by decide
theorem zkb_11 : (Int8.ofInt 11).toInt32 = (11 : Int32) := by decide
theorem zkb_12 : (Int8.ofInt 12).toInt32 = (12 : Int32) := by decide
theorem zkb_13 : (Int8.ofInt 13).toInt32 = (13 : Int32) := by decide
theorem zkb_14 : (Int8.ofInt 14).toInt32 = (14 : Int32) := by decide
theorem zkb_16 : (Int8.ofInt 16).toInt32 = (16 : Int32) := by decide
theorem zkb_20 : (Int8.ofInt 20).toInt32 = (20 : Int32) := by decide
theorem zkb_24 : (Int8.ofInt 24).toInt32 = (24 : Int32) := by decide
theorem zkb_30 : (Int8.ofInt 30).toInt32 = (30 : Int32) := by decide
theorem zkb_32 : (Int8.ofInt 32).toInt32 = (32 : Int32) := by decide
theorem zkb_48 : (Int8.ofInt 48).toInt32 = (48 : Int32) := by decide
theorem zkb_57 : (Int8.ofInt 57).toInt32 = (57 : Int32) := by decide
theorem zkb_59 : (Int8.ofInt 59).toInt32 = (59 : Int32) := by decide
theorem zkb_63 : (Int8.ofInt 63).toInt32 = (63 : Int32) := by decide
theorem zkb_97 : (Int8.ofInt 97).toInt32 = (97 : Int32) := by decide
theorem zkb_99 : (Int8.ofInt 99).toInt32 = (99 : Int32) := by decide
theorem zkb_122 : (Int8.ofInt 122).toInt32 = (122 : Int32) := by decide
theorem zki_m8 : Int32.ofInt (-8) = (-8 : Int32) := by decide
theorem zki_m1 : Int32.ofInt (-1) = (-1 : Int32) := by decide
theorem zki_0 : Int32.ofInt 0 = (0 : Int32) := by decide
theorem zki_1 : Int32.ofInt 1 = (1 : Int32) := by decide
theorem zki_2 : Int32.ofInt 2 = (2 : Int32) := by decide
theorem zki_3 : Int32.ofInt 3 = (3 : Int32) := by decide
theorem zki_4 : Int32.ofInt 4 = (4 : Int32) := by decide
theorem zki_5 : Int32.ofInt 5 = (5 : Int32) := by decide
theorem zks_m999 : (Int16.ofInt (-999)).toInt32 = (-999 : Int32) := by decide
theorem zks_132 : (Int16.ofInt 132).toInt32 = (132 : Int32) := by decide
theorem zks_150 : (Int16.ofInt 150).toInt32 = (150 : Int32) := by decide
theorem zks_179 : (Int16.ofInt 179).toInt32 = (179 : Int32) := by decide
theorem zks_200 : (Int16.ofInt 200).toInt32 = (200 : Int32) := by decide
theorem zks_240 : (Int16.ofInt 240).toInt32 = (240 : Int32) := by decide
theorem zks_252 : (Int16.ofInt 252).toInt32 = (252 : Int32) := by decide
theorem zks_255 : (Int16.ofInt 255).toInt32 = (255 : Int32) := by decide
theorem zks_500 : (Int16.ofInt 500).toInt32 = (500 : Int32) := by decide
theorem zks_700 : (Int16.ofInt 700).toInt32 = (700 : Int32) := by decide
theorem zks_999 : (Int16.ofInt 999).toInt32 = (999 : Int32) := by decide
theorem zks_1103 : (Int16.ofInt 1103).toInt32 = (1103 : Int32) := by decide
theorem zks_2412 : (Int16.ofInt 2412).toInt32 = (2412 : Int32) := by decide
theorem zks_2413 : (Int16.ofInt 2413).toInt32 = (2413 : Int32) := by decide
theorem zks_2414 : (Int16.ofInt 2414).toInt32 = (2414 : Int32) := by decide
theorem zks_2415 : (Int16.ofInt 2415).toInt32 = (2415 : Int32) := by decide
theorem zks_2416 : (Int16.ofInt 2416).toInt32 = (2416 : Int32) := by decide
theorem zks_2417 : (Int16.ofInt 2417).toInt32 = (2417 : Int32) := by decide
theorem zks_2592 : (Int16.ofInt 2592).toInt32 = (2592 : Int32) := by decide
theorem zks_12345 : (Int16.ofInt 12345).toInt32 = (12345 : Int32) := by decide
theorem zc_0 : (0 : Int32).toNatClampNeg = 0 := by decide
theorem zc_1 : (1 : Int32).toNatClampNeg = 1 := by decide
theorem zc_2 : (2 : Int32).toNatClampNeg = 2 := by decide
theorem zc_3 : (3 : Int32).toNatClampNeg = 3 := by decide
theorem zc_4 : (4 : Int32).toNatClampNeg = 4 := by decide
theorem zc_5 : (5 : Int32).toNatClampNeg = 5 := by decide
theorem zc_6 : (6 : Int32).toNatClampNeg = 6 := by decide
theorem zc_7 : (7 : Int32).toNatClampNeg = 7 := by decide
theorem zc_8 : (8 : Int32).toNatClampNeg = 8 := by decide
theorem zc_9 : (9 : Int32).toNatClampNeg = 9 := by decide
theorem zc_10 : (10 : Int32).toNatClampNeg = 10 := by decide
theorem zc_11 : (11 : Int32).toNatClampNeg = 11 := by decide
theorem zc_2412 : (2412 : Int32).toNatClampNeg = 2412 := by decide
theorem zc_2413 : (2413 : Int32).toNatClampNeg = 2413 := by decide
theorem zc_2415 : (2415 : Int32).toNatClampNeg = 2415 := by decide
theorem zc_2416 : (2416 : Int32).toNatClampNeg = 2416 := by decide
theorem zc_2417 : (2417 : Int32).toNatClampNeg = 2417 := by decide
abbrev b_String_coder : ByteArray := prog_19_method_152_code
abbrev y_String_coder : MethodName := ⟨"java/lang/String", "coder", "()B"⟩
abbrev b_String_isLatin1 : ByteArray := prog_19_method_154_code
abbrev y_String_isLatin1 : MethodName := ⟨"java/lang/String", "isLatin1", "()Z"⟩
abbrev b_String_length : ByteArray := prog_19_method_54_code
abbrev y_String_length : MethodName := ⟨"java/lang/String", "length", "()I"⟩
abbrev b_String_checkIndex : ByteArray := prog_19_method_155_code
abbrev y_String_checkIndex : MethodName := ⟨"java/lang/String", "checkIndex", "(II)V"⟩
abbrev b_String_charAt : ByteArray := prog_19_method_56_code
abbrev y_String_charAt : MethodName := ⟨"java/lang/String", "charAt", "(I)C"⟩
abbrev b_Latin1_charAt : ByteArray := prog_20_method_2_code
abbrev y_Latin1_charAt : MethodName := ⟨"java/lang/StringLatin1", "charAt", "([BI)C"⟩
abbrev b_Precond_checkIndex : ByteArray := prog_25_method_11_code
abbrev y_Precond_checkIndex : MethodName := ⟨"jdk/internal/util/Preconditions", "checkIndex", "(IILjava/util/function/BiFunction;)I"⟩
abbrev b_Integer_bitCount : ByteArray := prog_16_method_49_code
abbrev y_Integer_bitCount : MethodName := ⟨"java/lang/Integer", "bitCount", "(I)I"⟩
abbrev b_Row_get : ByteArray := prog_6_method_2_code
abbrev y_Row_get : MethodName := ⟨"VillageWaves$Row", "get", "(I)I"⟩
abbrev b_Row_put : ByteArray := prog_6_method_3_code
abbrev y_Row_put : MethodName := ⟨"VillageWaves$Row", "put", "(II)V"⟩
abbrev b_Row_add : ByteArray := prog_6_method_4_code
abbrev y_Row_add : MethodName := ⟨"VillageWaves$Row", "add", "(II)V"⟩
abbrev b_Row_join : ByteArray := prog_6_method_5_code
abbrev y_Row_join : MethodName := ⟨"VillageWaves$Row", "join", "(II)V"⟩
abbrev b_Row_leave : ByteArray := prog_6_method_6_code
abbrev y_Row_leave : MethodName := ⟨"VillageWaves$Row", "leave", "(II)V"⟩
abbrev b_Arrays_fill : ByteArray := prog_24_method_103_code
abbrev y_Arrays_fill : MethodName := ⟨"java/util/Arrays", "fill", "([II)V"⟩
abbrev b_Row_fill : ByteArray := prog_6_method_7_code
abbrev y_Row_fill : MethodName := ⟨"VillageWaves$Row", "fill", "(I)V"⟩
abbrev b_Row_copyFrom : ByteArray := prog_6_method_8_code
abbrev y_Row_copyFrom : MethodName := ⟨"VillageWaves$Row", "copyFrom", "(LVillageWaves$Row;)V"⟩
abbrev b_Waves_bit : ByteArray := prog_1_method_43_code
abbrev y_Waves_bit : MethodName := ⟨"VillageWaves", "bit", "(I)I"⟩
abbrev b_Waves_contains : ByteArray := prog_1_method_44_code
abbrev y_Waves_contains : MethodName := ⟨"VillageWaves", "contains", "(II)Z"⟩
abbrev b_Waves_cell : ByteArray := prog_1_method_45_code
abbrev y_Waves_cell : MethodName := ⟨"VillageWaves", "cell", "(II)I"⟩
abbrev b_Waves_element : ByteArray := prog_1_method_46_code
abbrev y_Waves_element : MethodName := ⟨"VillageWaves", "element", "([II)I"⟩
abbrev b_Journal_clear : ByteArray := prog_4_method_2_code
abbrev y_Journal_clear : MethodName := ⟨"VillageWaves$Journal", "clear", "()V"⟩
abbrev b_Journal_copyFrom : ByteArray := prog_4_method_3_code
abbrev y_Journal_copyFrom : MethodName := ⟨"VillageWaves$Journal", "copyFrom", "(LVillageWaves$Journal;)V"⟩
abbrev b_Journal_add : ByteArray := prog_4_method_4_code
abbrev y_Journal_add : MethodName := ⟨"VillageWaves$Journal", "add", "(IIIIII)V"⟩
abbrev b_Journal_fact : ByteArray := prog_4_method_5_code
abbrev y_Journal_fact : MethodName := ⟨"VillageWaves$Journal", "fact", "(II)I"⟩
abbrev b_Entries_clear : ByteArray := prog_2_method_2_code
abbrev y_Entries_clear : MethodName := ⟨"VillageWaves$Entries", "clear", "()V"⟩
abbrev b_Entries_copyFrom : ByteArray := prog_2_method_3_code
abbrev y_Entries_copyFrom : MethodName := ⟨"VillageWaves$Entries", "copyFrom", "(LVillageWaves$Entries;)V"⟩
abbrev b_Entries_put : ByteArray := prog_2_method_4_code
abbrev y_Entries_put : MethodName := ⟨"VillageWaves$Entries", "put", "(III)V"⟩
abbrev b_Entries_remove : ByteArray := prog_2_method_5_code
abbrev y_Entries_remove : MethodName := ⟨"VillageWaves$Entries", "remove", "(II)V"⟩
abbrev b_Entries_time : ByteArray := prog_2_method_6_code
abbrev y_Entries_time : MethodName := ⟨"VillageWaves$Entries", "time", "(II)I"⟩
abbrev b_Entries_size : ByteArray := prog_2_method_7_code
abbrev y_Entries_size : MethodName := ⟨"VillageWaves$Entries", "size", "(I)I"⟩
abbrev b_Entries_total : ByteArray := prog_2_method_8_code
abbrev y_Entries_total : MethodName := ⟨"VillageWaves$Entries", "total", "()I"⟩
abbrev b_Entries_first : ByteArray := prog_2_method_9_code
abbrev y_Entries_first : MethodName := ⟨"VillageWaves$Entries", "first", "(II)I"⟩
abbrev b_Entries_at : ByteArray := prog_2_method_10_code
abbrev y_Entries_at : MethodName := ⟨"VillageWaves$Entries", "at", "(II)I"⟩
abbrev b_Tidings_clear : ByteArray := prog_8_method_2_code
abbrev y_Tidings_clear : MethodName := ⟨"VillageWaves$Tidings", "clear", "()V"⟩
abbrev b_Tidings_copyFrom : ByteArray := prog_8_method_3_code
abbrev y_Tidings_copyFrom : MethodName := ⟨"VillageWaves$Tidings", "copyFrom", "(LVillageWaves$Tidings;)V"⟩
abbrev b_Tidings_isFull : ByteArray := prog_8_method_4_code
abbrev y_Tidings_isFull : MethodName := ⟨"VillageWaves$Tidings", "isFull", "()Z"⟩
abbrev b_Tidings_add : ByteArray := prog_8_method_5_code
abbrev y_Tidings_add : MethodName := ⟨"VillageWaves$Tidings", "add", "(III)I"⟩
abbrev b_Tidings_isCorrected : ByteArray := prog_8_method_6_code
abbrev y_Tidings_isCorrected : MethodName := ⟨"VillageWaves$Tidings", "isCorrected", "(I)Z"⟩
abbrev b_Tidings_correctedNumber : ByteArray := prog_8_method_7_code
abbrev y_Tidings_correctedNumber : MethodName := ⟨"VillageWaves$Tidings", "correctedNumber", "()I"⟩
abbrev b_Tidings_isHeardOf : ByteArray := prog_8_method_8_code
abbrev y_Tidings_isHeardOf : MethodName := ⟨"VillageWaves$Tidings", "isHeardOf", "(II)Z"⟩
abbrev b_Tidings_uncorrectedHouses : ByteArray := prog_8_method_9_code
abbrev y_Tidings_uncorrectedHouses : MethodName := ⟨"VillageWaves$Tidings", "uncorrectedHouses", "(I)I"⟩
abbrev b_Tidings_newsKnownAt : ByteArray := prog_8_method_10_code
abbrev y_Tidings_newsKnownAt : MethodName := ⟨"VillageWaves$Tidings", "newsKnownAt", "(I)I"⟩
abbrev b_Tidings_correctionsKnownAt : ByteArray := prog_8_method_11_code
abbrev y_Tidings_correctionsKnownAt : MethodName := ⟨"VillageWaves$Tidings", "correctionsKnownAt", "(I)I"⟩
abbrev b_Tidings_uncorrectedAt : ByteArray := prog_8_method_12_code
abbrev y_Tidings_uncorrectedAt : MethodName := ⟨"VillageWaves$Tidings", "uncorrectedAt", "(I)I"⟩
abbrev b_Homes_clear : ByteArray := prog_3_method_2_code
abbrev y_Homes_clear : MethodName := ⟨"VillageWaves$Homes", "clear", "()V"⟩
abbrev b_Homes_copyFrom : ByteArray := prog_3_method_3_code
abbrev y_Homes_copyFrom : MethodName := ⟨"VillageWaves$Homes", "copyFrom", "(LVillageWaves$Homes;)V"⟩
abbrev b_Homes_isFull : ByteArray := prog_3_method_4_code
abbrev y_Homes_isFull : MethodName := ⟨"VillageWaves$Homes", "isFull", "()Z"⟩
abbrev b_Homes_distance : ByteArray := prog_3_method_7_code
abbrev y_Homes_distance : MethodName := ⟨"VillageWaves$Homes", "distance", "(II)I"⟩
abbrev b_Homes_noteRange : ByteArray := prog_3_method_6_code
abbrev y_Homes_noteRange : MethodName := ⟨"VillageWaves$Homes", "noteRange", "(II)V"⟩
abbrev b_Homes_add : ByteArray := prog_3_method_5_code
abbrev y_Homes_add : MethodName := ⟨"VillageWaves$Homes", "add", "(IIIII)I"⟩
abbrev b_Homes_addToBattery : ByteArray := prog_3_method_8_code
abbrev y_Homes_addToBattery : MethodName := ⟨"VillageWaves$Homes", "addToBattery", "(II)V"⟩
abbrev b_Homes_beginDay : ByteArray := prog_3_method_9_code
abbrev y_Homes_beginDay : MethodName := ⟨"VillageWaves$Homes", "beginDay", "(I)V"⟩
abbrev b_Homes_isQuiet : ByteArray := prog_3_method_10_code
abbrev y_Homes_isQuiet : MethodName := ⟨"VillageWaves$Homes", "isQuiet", "(II)Z"⟩
abbrev b_Homes_quietAt : ByteArray := prog_3_method_11_code
abbrev y_Homes_quietAt : MethodName := ⟨"VillageWaves$Homes", "quietAt", "(I)I"⟩
abbrev b_Homes_sharesOf : ByteArray := prog_3_method_12_code
abbrev y_Homes_sharesOf : MethodName := ⟨"VillageWaves$Homes", "sharesOf", "(I)I"⟩
abbrev b_Homes_batterySum : ByteArray := prog_3_method_13_code
abbrev y_Homes_batterySum : MethodName := ⟨"VillageWaves$Homes", "batterySum", "()I"⟩
abbrev b_Homes_nearerThan : ByteArray := prog_3_method_15_code
abbrev y_Homes_nearerThan : MethodName := ⟨"VillageWaves$Homes", "nearerThan", "(II)I"⟩
abbrev b_Homes_nearest : ByteArray := prog_3_method_14_code
abbrev y_Homes_nearest : MethodName := ⟨"VillageWaves$Homes", "nearest", "(II)I"⟩
abbrev b_Homes_rangesOf : ByteArray := prog_3_method_17_code
abbrev y_Homes_rangesOf : MethodName := ⟨"VillageWaves$Homes", "rangesOf", "(I)I"⟩
abbrev b_Homes_sendings : ByteArray := prog_3_method_16_code
abbrev y_Homes_sendings : MethodName := ⟨"VillageWaves$Homes", "sendings", "(II)I"⟩
abbrev b_Village_clear : ByteArray := prog_9_method_2_code
abbrev y_Village_clear : MethodName := ⟨"VillageWaves$Village", "clear", "()V"⟩
abbrev b_Village_copyFrom : ByteArray := prog_9_method_3_code
abbrev y_Village_copyFrom : MethodName := ⟨"VillageWaves$Village", "copyFrom", "(LVillageWaves$Village;)V"⟩
abbrev b_Village_minuteOfDay : ByteArray := prog_9_method_4_code
abbrev y_Village_minuteOfDay : MethodName := ⟨"VillageWaves$Village", "minuteOfDay", "()I"⟩
abbrev b_Village_addNews : ByteArray := prog_9_method_5_code
abbrev y_Village_addNews : MethodName := ⟨"VillageWaves$Village", "addNews", "(II)I"⟩
abbrev b_Village_owedBy : ByteArray := prog_9_method_7_code
abbrev y_Village_owedBy : MethodName := ⟨"VillageWaves$Village", "owedBy", "(II)I"⟩
abbrev b_Village_learnCorrection : ByteArray := prog_9_method_20_code
abbrev y_Village_learnCorrection : MethodName := ⟨"VillageWaves$Village", "learnCorrection", "(II)V"⟩
abbrev b_Village_addCorrection : ByteArray := prog_9_method_6_code
abbrev y_Village_addCorrection : MethodName := ⟨"VillageWaves$Village", "addCorrection", "(III)V"⟩
abbrev b_Village_sendableCorrections : ByteArray := prog_9_method_8_code
abbrev y_Village_sendableCorrections : MethodName := ⟨"VillageWaves$Village", "sendableCorrections", "(I)I"⟩
abbrev b_Village_beginDay : ByteArray := prog_9_method_11_code
abbrev y_Village_beginDay : MethodName := ⟨"VillageWaves$Village", "beginDay", "()V"⟩
abbrev b_Village_maySpeak : ByteArray := prog_9_method_13_code
abbrev y_Village_maySpeak : MethodName := ⟨"VillageWaves$Village", "maySpeak", "(II)Z"⟩
abbrev b_Village_wishing : ByteArray := prog_9_method_12_code
abbrev y_Village_wishing : MethodName := ⟨"VillageWaves$Village", "wishing", "()I"⟩
abbrev b_Village_draw : ByteArray := prog_9_method_15_code
abbrev y_Village_draw : MethodName := ⟨"VillageWaves$Village", "draw", "(I)I"⟩
abbrev b_Village_drawnOf : ByteArray := prog_9_method_14_code
abbrev y_Village_drawnOf : MethodName := ⟨"VillageWaves$Village", "drawnOf", "(I)I"⟩
abbrev b_Village_spendOnAir : ByteArray := prog_9_method_16_code
abbrev y_Village_spendOnAir : MethodName := ⟨"VillageWaves$Village", "spendOnAir", "(I)I"⟩
abbrev b_Village_dropSettledEntries : ByteArray := prog_9_method_21_code
abbrev y_Village_dropSettledEntries : MethodName := ⟨"VillageWaves$Village", "dropSettledEntries", "(I)V"⟩
abbrev b_Village_sendCorrection : ByteArray := prog_9_method_19_code
abbrev y_Village_sendCorrection : MethodName := ⟨"VillageWaves$Village", "sendCorrection", "(III)V"⟩
abbrev b_Village_getNews : ByteArray := prog_9_method_18_code
abbrev y_Village_getNews : MethodName := ⟨"VillageWaves$Village", "getNews", "(IIII)V"⟩
abbrev b_Village_sendNews : ByteArray := prog_9_method_17_code
abbrev y_Village_sendNews : MethodName := ⟨"VillageWaves$Village", "sendNews", "(III)V"⟩
abbrev b_Village_minute : ByteArray := prog_9_method_10_code
abbrev y_Village_minute : MethodName := ⟨"VillageWaves$Village", "minute", "()V"⟩
abbrev b_Village_pass : ByteArray := prog_9_method_9_code
abbrev y_Village_pass : MethodName := ⟨"VillageWaves$Village", "pass", "(I)V"⟩
abbrev b_Text_append : ByteArray := prog_7_method_2_code
abbrev y_Text_append : MethodName := ⟨"VillageWaves$Text", "append", "(I)V"⟩
abbrev b_Text_isBlank : ByteArray := prog_7_method_8_code
abbrev y_Text_isBlank : MethodName := ⟨"VillageWaves$Text", "isBlank", "(I)Z"⟩
abbrev b_Text_isLetter : ByteArray := prog_7_method_9_code
abbrev y_Text_isLetter : MethodName := ⟨"VillageWaves$Text", "isLetter", "(I)Z"⟩
abbrev b_Text_skipLetters : ByteArray := prog_7_method_6_code
abbrev y_Text_skipLetters : MethodName := ⟨"VillageWaves$Text", "skipLetters", "()V"⟩
abbrev b_Text_isDigit : ByteArray := prog_7_method_10_code
abbrev y_Text_isDigit : MethodName := ⟨"VillageWaves$Text", "isDigit", "(I)Z"⟩
abbrev b_Text_readDigits : ByteArray := prog_7_method_7_code
abbrev y_Text_readDigits : MethodName := ⟨"VillageWaves$Text", "readDigits", "()V"⟩
abbrev b_Text_step : ByteArray := prog_7_method_4_code
abbrev y_Text_step : MethodName := ⟨"VillageWaves$Text", "step", "()V"⟩
abbrev b_Text_rewind : ByteArray := prog_7_method_3_code
abbrev y_Text_rewind : MethodName := ⟨"VillageWaves$Text", "rewind", "()V"⟩
abbrev b_Text_isWord : ByteArray := prog_7_method_5_code
abbrev y_Text_isWord : MethodName := ⟨"VillageWaves$Text", "isWord", "(Ljava/lang/String;)Z"⟩
abbrev b_Reader_fail : ByteArray := prog_5_method_8_code
abbrev y_Reader_fail : MethodName := ⟨"VillageWaves$Reader", "fail", "(I)V"⟩
abbrev b_Reader_readNumber : ByteArray := prog_5_method_6_code
abbrev y_Reader_readNumber : MethodName := ⟨"VillageWaves$Reader", "readNumber", "(II)I"⟩
abbrev b_Reader_readSemicolon : ByteArray := prog_5_method_7_code
abbrev y_Reader_readSemicolon : MethodName := ⟨"VillageWaves$Reader", "readSemicolon", "()V"⟩
abbrev b_Reader_readHouse : ByteArray := prog_5_method_3_code
abbrev y_Reader_readHouse : MethodName := ⟨"VillageWaves$Reader", "readHouse", "(LVillageWaves$Village;)V"⟩
abbrev b_Reader_readSetting : ByteArray := prog_5_method_4_code
abbrev y_Reader_readSetting : MethodName := ⟨"VillageWaves$Reader", "readSetting", "(LVillageWaves$Village;)V"⟩
abbrev b_Reader_readNews : ByteArray := prog_5_method_5_code
abbrev y_Reader_readNews : MethodName := ⟨"VillageWaves$Reader", "readNews", "(LVillageWaves$Village;)V"⟩
abbrev b_Reader_readSetup : ByteArray := prog_5_method_2_code
abbrev y_Reader_readSetup : MethodName := ⟨"VillageWaves$Reader", "readSetup", "(LVillageWaves$Village;)Z"⟩
abbrev b_Waves_appendText : ByteArray := prog_1_method_2_code
abbrev y_Waves_appendText : MethodName := ⟨"VillageWaves", "appendText", "(I)I"⟩
abbrev b_Waves_checkWithin : ByteArray := prog_1_method_37_code
abbrev y_Waves_checkWithin : MethodName := ⟨"VillageWaves", "checkWithin", "(III)V"⟩
abbrev b_Waves_truncateText : ByteArray := prog_1_method_3_code
abbrev y_Waves_truncateText : MethodName := ⟨"VillageWaves", "truncateText", "(I)I"⟩
abbrev b_Waves_load : ByteArray := prog_1_method_4_code
abbrev y_Waves_load : MethodName := ⟨"VillageWaves", "load", "()I"⟩
abbrev b_Waves_errorCode : ByteArray := prog_1_method_5_code
abbrev y_Waves_errorCode : MethodName := ⟨"VillageWaves", "errorCode", "()I"⟩
abbrev b_Waves_errorPosition : ByteArray := prog_1_method_6_code
abbrev y_Waves_errorPosition : MethodName := ⟨"VillageWaves", "errorPosition", "()I"⟩
abbrev b_Waves_addHouse : ByteArray := prog_1_method_7_code
abbrev y_Waves_addHouse : MethodName := ⟨"VillageWaves", "addHouse", "(IIIII)I"⟩
abbrev b_Waves_checkHouse : ByteArray := prog_1_method_35_code
abbrev y_Waves_checkHouse : MethodName := ⟨"VillageWaves", "checkHouse", "(I)V"⟩
abbrev b_Waves_setQuiet : ByteArray := prog_1_method_8_code
abbrev y_Waves_setQuiet : MethodName := ⟨"VillageWaves", "setQuiet", "(III)V"⟩
abbrev b_Waves_charge : ByteArray := prog_1_method_9_code
abbrev y_Waves_charge : MethodName := ⟨"VillageWaves", "charge", "(II)I"⟩
abbrev b_Waves_set : ByteArray := prog_1_method_10_code
abbrev y_Waves_set : MethodName := ⟨"VillageWaves", "set", "(II)I"⟩
abbrev b_Waves_seed : ByteArray := prog_1_method_11_code
abbrev y_Waves_seed : MethodName := ⟨"VillageWaves", "seed", "(I)V"⟩
abbrev b_Waves_count : ByteArray := prog_1_method_12_code
abbrev y_Waves_count : MethodName := ⟨"VillageWaves", "count", "(I)I"⟩
abbrev b_Waves_house : ByteArray := prog_1_method_13_code
abbrev y_Waves_house : MethodName := ⟨"VillageWaves", "house", "(II)I"⟩
abbrev b_Waves_correctionEntryFact : ByteArray := prog_1_method_39_code
abbrev y_Waves_correctionEntryFact : MethodName := ⟨"VillageWaves", "correctionEntryFact", "(III)I"⟩
abbrev b_Waves_newsEntryFact : ByteArray := prog_1_method_40_code
abbrev y_Waves_newsEntryFact : MethodName := ⟨"VillageWaves", "newsEntryFact", "(III)I"⟩
abbrev b_Waves_entry : ByteArray := prog_1_method_14_code
abbrev y_Waves_entry : MethodName := ⟨"VillageWaves", "entry", "(III)I"⟩
abbrev b_Waves_checkNews : ByteArray := prog_1_method_36_code
abbrev y_Waves_checkNews : MethodName := ⟨"VillageWaves", "checkNews", "(I)V"⟩
abbrev b_Waves_news : ByteArray := prog_1_method_15_code
abbrev y_Waves_news : MethodName := ⟨"VillageWaves", "news", "(II)I"⟩
abbrev b_Waves_source : ByteArray := prog_1_method_16_code
abbrev y_Waves_source : MethodName := ⟨"VillageWaves", "source", "(II)I"⟩
abbrev b_Waves_owes : ByteArray := prog_1_method_17_code
abbrev y_Waves_owes : MethodName := ⟨"VillageWaves", "owes", "(II)I"⟩
abbrev b_Waves_spoken : ByteArray := prog_1_method_18_code
abbrev y_Waves_spoken : MethodName := ⟨"VillageWaves", "spoken", "(II)I"⟩
abbrev b_Waves_tell : ByteArray := prog_1_method_19_code
abbrev y_Waves_tell : MethodName := ⟨"VillageWaves", "tell", "(II)I"⟩
abbrev b_Waves_correct : ByteArray := prog_1_method_20_code
abbrev y_Waves_correct : MethodName := ⟨"VillageWaves", "correct", "(III)I"⟩
abbrev b_Waves_run : ByteArray := prog_1_method_21_code
abbrev y_Waves_run : MethodName := ⟨"VillageWaves", "run", "(I)I"⟩
abbrev b_Waves_wishingInDraft : ByteArray := prog_1_method_38_code
abbrev y_Waves_wishingInDraft : MethodName := ⟨"VillageWaves", "wishingInDraft", "()I"⟩
abbrev b_Waves_wishes : ByteArray := prog_1_method_22_code
abbrev y_Waves_wishes : MethodName := ⟨"VillageWaves", "wishes", "()I"⟩
abbrev b_Waves_next : ByteArray := prog_1_method_23_code
abbrev y_Waves_next : MethodName := ⟨"VillageWaves", "next", "()I"⟩
abbrev b_Waves_chance : ByteArray := prog_1_method_24_code
abbrev y_Waves_chance : MethodName := ⟨"VillageWaves", "chance", "(I)D"⟩
abbrev b_Waves_near : ByteArray := prog_1_method_25_code
abbrev y_Waves_near : MethodName := ⟨"VillageWaves", "near", "(II)I"⟩
abbrev b_Waves_hops : ByteArray := prog_1_method_26_code
abbrev y_Waves_hops : MethodName := ⟨"VillageWaves", "hops", "(II)I"⟩
abbrev b_Waves_overlap : ByteArray := prog_1_method_27_code
abbrev y_Waves_overlap : MethodName := ⟨"VillageWaves", "overlap", "(II)I"⟩
abbrev b_Waves_meanBattery : ByteArray := prog_1_method_28_code
abbrev y_Waves_meanBattery : MethodName := ⟨"VillageWaves", "meanBattery", "()F"⟩
abbrev b_Waves_reached : ByteArray := prog_1_method_29_code
abbrev y_Waves_reached : MethodName := ⟨"VillageWaves", "reached", "(III)I"⟩
abbrev b_Waves_correctedIn : ByteArray := prog_1_method_30_code
abbrev y_Waves_correctedIn : MethodName := ⟨"VillageWaves", "correctedIn", "(II)I"⟩
abbrev b_Waves_sizesOf : ByteArray := prog_1_method_41_code
abbrev y_Waves_sizesOf : MethodName := ⟨"VillageWaves", "sizesOf", "(LVillageWaves$Row;LVillageWaves$Row;)I"⟩
abbrev b_Waves_ahead : ByteArray := prog_1_method_31_code
abbrev y_Waves_ahead : MethodName := ⟨"VillageWaves", "ahead", "(II)I"⟩
abbrev b_Waves_bestAuthor : ByteArray := prog_1_method_32_code
abbrev y_Waves_bestAuthor : MethodName := ⟨"VillageWaves", "bestAuthor", "(I)I"⟩
abbrev b_Waves_savedIn : ByteArray := prog_1_method_42_code
abbrev y_Waves_savedIn : MethodName := ⟨"VillageWaves", "savedIn", "(I)LVillageWaves$Village;"⟩
abbrev b_Waves_save : ByteArray := prog_1_method_33_code
abbrev y_Waves_save : MethodName := ⟨"VillageWaves", "save", "(I)V"⟩
abbrev b_Waves_restore : ByteArray := prog_1_method_34_code
abbrev y_Waves_restore : MethodName := ⟨"VillageWaves", "restore", "(I)V"⟩
abbrev b_Model_thrown : ByteArray := prog_11_method_2_code
abbrev y_Model_thrown : MethodName := ⟨"VillageWavesModel", "thrown", "()I"⟩
abbrev b_Model_fail : ByteArray := prog_11_method_3_code
abbrev y_Model_fail : MethodName := ⟨"VillageWavesModel", "fail", "(I)I"⟩
abbrev b_Model_isBetween : ByteArray := prog_11_method_4_code
abbrev y_Model_isBetween : MethodName := ⟨"VillageWavesModel", "isBetween", "(III)Z"⟩
abbrev b_Model_clear : ByteArray := prog_11_method_5_code
abbrev y_Model_clear : MethodName := ⟨"VillageWavesModel", "clear", "()V"⟩
abbrev b_Model_copy : ByteArray := prog_11_method_6_code
abbrev y_Model_copy : MethodName := ⟨"VillageWavesModel", "copy", "([II[II)V"⟩
abbrev b_Model_isHouse : ByteArray := prog_11_method_7_code
abbrev y_Model_isHouse : MethodName := ⟨"VillageWavesModel", "isHouse", "(I)Z"⟩
abbrev b_Model_isNews : ByteArray := prog_11_method_8_code
abbrev y_Model_isNews : MethodName := ⟨"VillageWavesModel", "isNews", "(I)Z"⟩
abbrev b_Model_of : ByteArray := prog_11_method_9_code
abbrev y_Model_of : MethodName := ⟨"VillageWavesModel", "of", "(II)I"⟩
abbrev b_Model_put : ByteArray := prog_11_method_10_code
abbrev y_Model_put : MethodName := ⟨"VillageWavesModel", "put", "(III)V"⟩
abbrev b_Model_story : ByteArray := prog_11_method_11_code
abbrev y_Model_story : MethodName := ⟨"VillageWavesModel", "story", "(II)I"⟩
abbrev b_Model_tellStory : ByteArray := prog_11_method_12_code
abbrev y_Model_tellStory : MethodName := ⟨"VillageWavesModel", "tellStory", "(III)V"⟩
abbrev b_Model_pairPlace : ByteArray := prog_11_method_13_code
abbrev y_Model_pairPlace : MethodName := ⟨"VillageWavesModel", "pairPlace", "(II)I"⟩
abbrev b_Model_pair : ByteArray := prog_11_method_14_code
abbrev y_Model_pair : MethodName := ⟨"VillageWavesModel", "pair", "(III)I"⟩
abbrev b_Model_setPair : ByteArray := prog_11_method_15_code
abbrev y_Model_setPair : MethodName := ⟨"VillageWavesModel", "setPair", "(IIII)V"⟩
abbrev b_Model_appendText : ByteArray := prog_11_method_16_code
abbrev y_Model_appendText : MethodName := ⟨"VillageWavesModel", "appendText", "(I)I"⟩
abbrev b_Model_truncateText : ByteArray := prog_11_method_17_code
abbrev y_Model_truncateText : MethodName := ⟨"VillageWavesModel", "truncateText", "(I)I"⟩
abbrev b_Model_byteAt : ByteArray := prog_11_method_18_code
abbrev y_Model_byteAt : MethodName := ⟨"VillageWavesModel", "byteAt", "(I)I"⟩
abbrev b_Model_isLetter : ByteArray := prog_11_method_19_code
abbrev y_Model_isLetter : MethodName := ⟨"VillageWavesModel", "isLetter", "(I)Z"⟩
abbrev b_Model_isDigit : ByteArray := prog_11_method_20_code
abbrev y_Model_isDigit : MethodName := ⟨"VillageWavesModel", "isDigit", "(I)Z"⟩
abbrev b_Model_nextToken : ByteArray := prog_11_method_21_code
abbrev y_Model_nextToken : MethodName := ⟨"VillageWavesModel", "nextToken", "()V"⟩
abbrev b_Model_isWord : ByteArray := prog_11_method_22_code
abbrev y_Model_isWord : MethodName := ⟨"VillageWavesModel", "isWord", "(Ljava/lang/String;)Z"⟩
abbrev b_Model_require : ByteArray := prog_11_method_23_code
abbrev y_Model_require : MethodName := ⟨"VillageWavesModel", "require", "(ZI)V"⟩
abbrev b_Model_isFine : ByteArray := prog_11_method_24_code
abbrev y_Model_isFine : MethodName := ⟨"VillageWavesModel", "isFine", "()Z"⟩
abbrev b_Model_advance : ByteArray := prog_11_method_25_code
abbrev y_Model_advance : MethodName := ⟨"VillageWavesModel", "advance", "()V"⟩
abbrev b_Model_parseNumber : ByteArray := prog_11_method_26_code
abbrev y_Model_parseNumber : MethodName := ⟨"VillageWavesModel", "parseNumber", "(II)I"⟩
abbrev b_Model_parseEnd : ByteArray := prog_11_method_27_code
abbrev y_Model_parseEnd : MethodName := ⟨"VillageWavesModel", "parseEnd", "()V"⟩
abbrev b_Model_clearPair : ByteArray := prog_11_method_37_code
abbrev y_Model_clearPair : MethodName := ⟨"VillageWavesModel", "clearPair", "(II)V"⟩
abbrev b_Model_appendHouse : ByteArray := prog_11_method_36_code
abbrev y_Model_appendHouse : MethodName := ⟨"VillageWavesModel", "appendHouse", "(IIIII)I"⟩
abbrev b_Model_parseHouse : ByteArray := prog_11_method_28_code
abbrev y_Model_parseHouse : MethodName := ⟨"VillageWavesModel", "parseHouse", "()V"⟩
abbrev b_Model_parseSet : ByteArray := prog_11_method_29_code
abbrev y_Model_parseSet : MethodName := ⟨"VillageWavesModel", "parseSet", "()V"⟩
abbrev b_Model_parseSeed : ByteArray := prog_11_method_30_code
abbrev y_Model_parseSeed : MethodName := ⟨"VillageWavesModel", "parseSeed", "()V"⟩
abbrev b_Model_enter : ByteArray := prog_11_method_73_code
abbrev y_Model_enter : MethodName := ⟨"VillageWavesModel", "enter", "(III)V"⟩
abbrev b_Model_appendNews : ByteArray := prog_11_method_74_code
abbrev y_Model_appendNews : MethodName := ⟨"VillageWavesModel", "appendNews", "(II)I"⟩
abbrev b_Model_parseNews : ByteArray := prog_11_method_31_code
abbrev y_Model_parseNews : MethodName := ⟨"VillageWavesModel", "parseNews", "()V"⟩
abbrev b_Model_parseStatement : ByteArray := prog_11_method_32_code
abbrev y_Model_parseStatement : MethodName := ⟨"VillageWavesModel", "parseStatement", "()V"⟩
abbrev b_Model_load : ByteArray := prog_11_method_33_code
abbrev y_Model_load : MethodName := ⟨"VillageWavesModel", "load", "()I"⟩
abbrev b_Model_errorCode : ByteArray := prog_11_method_34_code
abbrev y_Model_errorCode : MethodName := ⟨"VillageWavesModel", "errorCode", "()I"⟩
abbrev b_Model_errorPosition : ByteArray := prog_11_method_35_code
abbrev y_Model_errorPosition : MethodName := ⟨"VillageWavesModel", "errorPosition", "()I"⟩
abbrev b_Model_addHouse : ByteArray := prog_11_method_38_code
abbrev y_Model_addHouse : MethodName := ⟨"VillageWavesModel", "addHouse", "(IIIII)I"⟩
abbrev b_Model_setQuiet : ByteArray := prog_11_method_39_code
abbrev y_Model_setQuiet : MethodName := ⟨"VillageWavesModel", "setQuiet", "(III)V"⟩
abbrev b_Model_charge : ByteArray := prog_11_method_40_code
abbrev y_Model_charge : MethodName := ⟨"VillageWavesModel", "charge", "(II)I"⟩
abbrev b_Model_set : ByteArray := prog_11_method_41_code
abbrev y_Model_set : MethodName := ⟨"VillageWavesModel", "set", "(II)I"⟩
abbrev b_Model_seed : ByteArray := prog_11_method_42_code
abbrev y_Model_seed : MethodName := ⟨"VillageWavesModel", "seed", "(I)V"⟩
abbrev b_Model_isQuietAt : ByteArray := prog_11_method_43_code
abbrev y_Model_isQuietAt : MethodName := ⟨"VillageWavesModel", "isQuietAt", "(II)Z"⟩
abbrev b_Model_isQuiet : ByteArray := prog_11_method_44_code
abbrev y_Model_isQuiet : MethodName := ⟨"VillageWavesModel", "isQuiet", "(I)Z"⟩
abbrev b_Model_quietHouses : ByteArray := prog_11_method_45_code
abbrev y_Model_quietHouses : MethodName := ⟨"VillageWavesModel", "quietHouses", "()I"⟩
abbrev b_Model_entriesOf : ByteArray := prog_11_method_46_code
abbrev y_Model_entriesOf : MethodName := ⟨"VillageWavesModel", "entriesOf", "(I)I"⟩
abbrev b_Model_allEntries : ByteArray := prog_11_method_47_code
abbrev y_Model_allEntries : MethodName := ⟨"VillageWavesModel", "allEntries", "()I"⟩
abbrev b_Model_isCorrected : ByteArray := prog_11_method_48_code
abbrev y_Model_isCorrected : MethodName := ⟨"VillageWavesModel", "isCorrected", "(I)Z"⟩
abbrev b_Model_correctedNews : ByteArray := prog_11_method_49_code
abbrev y_Model_correctedNews : MethodName := ⟨"VillageWavesModel", "correctedNews", "()I"⟩
abbrev b_Model_count : ByteArray := prog_11_method_50_code
abbrev y_Model_count : MethodName := ⟨"VillageWavesModel", "count", "(I)I"⟩
abbrev b_Model_distance : ByteArray := prog_11_method_51_code
abbrev y_Model_distance : MethodName := ⟨"VillageWavesModel", "distance", "(II)I"⟩
abbrev b_Model_isInRange : ByteArray := prog_11_method_52_code
abbrev y_Model_isInRange : MethodName := ⟨"VillageWavesModel", "isInRange", "(II)Z"⟩
abbrev b_Model_housesInRange : ByteArray := prog_11_method_53_code
abbrev y_Model_housesInRange : MethodName := ⟨"VillageWavesModel", "housesInRange", "(I)I"⟩
abbrev b_Model_knows : ByteArray := prog_11_method_54_code
abbrev y_Model_knows : MethodName := ⟨"VillageWavesModel", "knows", "(III)Z"⟩
abbrev b_Model_newsOf : ByteArray := prog_11_method_55_code
abbrev y_Model_newsOf : MethodName := ⟨"VillageWavesModel", "newsOf", "(II)I"⟩
abbrev b_Model_housesOf : ByteArray := prog_11_method_56_code
abbrev y_Model_housesOf : MethodName := ⟨"VillageWavesModel", "housesOf", "(II)I"⟩
abbrev b_Model_house : ByteArray := prog_11_method_57_code
abbrev y_Model_house : MethodName := ⟨"VillageWavesModel", "house", "(II)I"⟩
abbrev b_Model_isOwed : ByteArray := prog_11_method_58_code
abbrev y_Model_isOwed : MethodName := ⟨"VillageWavesModel", "isOwed", "(III)Z"⟩
abbrev b_Model_owedBy : ByteArray := prog_11_method_59_code
abbrev y_Model_owedBy : MethodName := ⟨"VillageWavesModel", "owedBy", "(II)I"⟩
abbrev b_Model_isCorrection : ByteArray := prog_11_method_60_code
abbrev y_Model_isCorrection : MethodName := ⟨"VillageWavesModel", "isCorrection", "(I)Z"⟩
abbrev b_Model_timeOf : ByteArray := prog_11_method_61_code
abbrev y_Model_timeOf : MethodName := ⟨"VillageWavesModel", "timeOf", "(II)I"⟩
abbrev b_Model_comesAhead : ByteArray := prog_11_method_62_code
abbrev y_Model_comesAhead : MethodName := ⟨"VillageWavesModel", "comesAhead", "(III)Z"⟩
abbrev b_Model_enqueue : ByteArray := prog_11_method_63_code
abbrev y_Model_enqueue : MethodName := ⟨"VillageWavesModel", "enqueue", "(II)V"⟩
abbrev b_Model_layQueue : ByteArray := prog_11_method_64_code
abbrev y_Model_layQueue : MethodName := ⟨"VillageWavesModel", "layQueue", "(I)V"⟩
abbrev b_Model_canSend : ByteArray := prog_11_method_65_code
abbrev y_Model_canSend : MethodName := ⟨"VillageWavesModel", "canSend", "(II)Z"⟩
abbrev b_Model_firstToSend : ByteArray := prog_11_method_66_code
abbrev y_Model_firstToSend : MethodName := ⟨"VillageWavesModel", "firstToSend", "(I)I"⟩
abbrev b_Model_entry : ByteArray := prog_11_method_67_code
abbrev y_Model_entry : MethodName := ⟨"VillageWavesModel", "entry", "(III)I"⟩
abbrev b_Model_greatestHops : ByteArray := prog_11_method_68_code
abbrev y_Model_greatestHops : MethodName := ⟨"VillageWavesModel", "greatestHops", "(I)I"⟩
abbrev b_Model_news : ByteArray := prog_11_method_69_code
abbrev y_Model_news : MethodName := ⟨"VillageWavesModel", "news", "(II)I"⟩
abbrev b_Model_source : ByteArray := prog_11_method_70_code
abbrev y_Model_source : MethodName := ⟨"VillageWavesModel", "source", "(II)I"⟩
abbrev b_Model_owes : ByteArray := prog_11_method_71_code
abbrev y_Model_owes : MethodName := ⟨"VillageWavesModel", "owes", "(II)I"⟩
abbrev b_Model_spoken : ByteArray := prog_11_method_72_code
abbrev y_Model_spoken : MethodName := ⟨"VillageWavesModel", "spoken", "(II)I"⟩
abbrev b_Model_tell : ByteArray := prog_11_method_75_code
abbrev y_Model_tell : MethodName := ⟨"VillageWavesModel", "tell", "(II)I"⟩
abbrev b_Model_learn : ByteArray := prog_11_method_76_code
abbrev y_Model_learn : MethodName := ⟨"VillageWavesModel", "learn", "(II)V"⟩
abbrev b_Model_size : ByteArray := prog_11_method_77_code
abbrev y_Model_size : MethodName := ⟨"VillageWavesModel", "size", "(I)I"⟩
abbrev b_Model_correct : ByteArray := prog_11_method_78_code
abbrev y_Model_correct : MethodName := ⟨"VillageWavesModel", "correct", "(III)I"⟩
abbrev b_Model_beginMinute : ByteArray := prog_11_method_79_code
abbrev y_Model_beginMinute : MethodName := ⟨"VillageWavesModel", "beginMinute", "()V"⟩
abbrev b_Model_isWishing : ByteArray := prog_11_method_80_code
abbrev y_Model_isWishing : MethodName := ⟨"VillageWavesModel", "isWishing", "(I)Z"⟩
abbrev b_Model_wishing : ByteArray := prog_11_method_81_code
abbrev y_Model_wishing : MethodName := ⟨"VillageWavesModel", "wishing", "()I"⟩
abbrev b_Model_shares : ByteArray := prog_11_method_82_code
abbrev y_Model_shares : MethodName := ⟨"VillageWavesModel", "shares", "(I)I"⟩
abbrev b_Model_draw : ByteArray := prog_11_method_83_code
abbrev y_Model_draw : MethodName := ⟨"VillageWavesModel", "draw", "(I)I"⟩
abbrev b_Model_drawSpeaker : ByteArray := prog_11_method_84_code
abbrev y_Model_drawSpeaker : MethodName := ⟨"VillageWavesModel", "drawSpeaker", "()I"⟩
abbrev b_Model_hearNews : ByteArray := prog_11_method_85_code
abbrev y_Model_hearNews : MethodName := ⟨"VillageWavesModel", "hearNews", "(III)V"⟩
abbrev b_Model_hear : ByteArray := prog_11_method_86_code
abbrev y_Model_hear : MethodName := ⟨"VillageWavesModel", "hear", "(III)Z"⟩
abbrev b_Model_note : ByteArray := prog_11_method_87_code
abbrev y_Model_note : MethodName := ⟨"VillageWavesModel", "note", "(IIII)V"⟩
abbrev b_Model_speak : ByteArray := prog_11_method_88_code
abbrev y_Model_speak : MethodName := ⟨"VillageWavesModel", "speak", "(I)V"⟩
abbrev b_Model_removePaid : ByteArray := prog_11_method_89_code
abbrev y_Model_removePaid : MethodName := ⟨"VillageWavesModel", "removePaid", "()V"⟩
abbrev b_Model_passMinute : ByteArray := prog_11_method_90_code
abbrev y_Model_passMinute : MethodName := ⟨"VillageWavesModel", "passMinute", "()V"⟩
abbrev b_Model_passMinutes : ByteArray := prog_11_method_91_code
abbrev y_Model_passMinutes : MethodName := ⟨"VillageWavesModel", "passMinutes", "(I)V"⟩
abbrev b_Model_run : ByteArray := prog_11_method_92_code
abbrev y_Model_run : MethodName := ⟨"VillageWavesModel", "run", "(I)I"⟩
abbrev b_Model_wishes : ByteArray := prog_11_method_93_code
abbrev y_Model_wishes : MethodName := ⟨"VillageWavesModel", "wishes", "()I"⟩
abbrev b_Model_next : ByteArray := prog_11_method_94_code
abbrev y_Model_next : MethodName := ⟨"VillageWavesModel", "next", "()I"⟩
abbrev b_Model_chance : ByteArray := prog_11_method_95_code
abbrev y_Model_chance : MethodName := ⟨"VillageWavesModel", "chance", "(I)D"⟩
abbrev b_Model_nearerOnes : ByteArray := prog_11_method_96_code
abbrev y_Model_nearerOnes : MethodName := ⟨"VillageWavesModel", "nearerOnes", "(II)I"⟩
abbrev b_Model_near : ByteArray := prog_11_method_97_code
abbrev y_Model_near : MethodName := ⟨"VillageWavesModel", "near", "(II)I"⟩
abbrev b_Model_hops : ByteArray := prog_11_method_98_code
abbrev y_Model_hops : MethodName := ⟨"VillageWavesModel", "hops", "(II)I"⟩
abbrev b_Model_overlap : ByteArray := prog_11_method_99_code
abbrev y_Model_overlap : MethodName := ⟨"VillageWavesModel", "overlap", "(II)I"⟩
abbrev b_Model_meanBattery : ByteArray := prog_11_method_100_code
abbrev y_Model_meanBattery : MethodName := ⟨"VillageWavesModel", "meanBattery", "()F"⟩
abbrev b_Model_reached : ByteArray := prog_11_method_101_code
abbrev y_Model_reached : MethodName := ⟨"VillageWavesModel", "reached", "(III)I"⟩
abbrev b_Model_correctedIn : ByteArray := prog_11_method_102_code
abbrev y_Model_correctedIn : MethodName := ⟨"VillageWavesModel", "correctedIn", "(II)I"⟩
abbrev b_Model_ahead : ByteArray := prog_11_method_103_code
abbrev y_Model_ahead : MethodName := ⟨"VillageWavesModel", "ahead", "(II)I"⟩
abbrev b_Model_bestAuthor : ByteArray := prog_11_method_104_code
abbrev y_Model_bestAuthor : MethodName := ⟨"VillageWavesModel", "bestAuthor", "(I)I"⟩
abbrev b_Model_save : ByteArray := prog_11_method_105_code
abbrev y_Model_save : MethodName := ⟨"VillageWavesModel", "save", "(I)V"⟩
abbrev b_Model_restore : ByteArray := prog_11_method_106_code
abbrev y_Model_restore : MethodName := ⟨"VillageWavesModel", "restore", "(I)V"⟩
theorem kl_String_335 : zLV "java/lang/String" 335 "java/lang/String" y_String_coder b_String_coder 1 (some .byte) 0 := ⟨zq509, zq510, zq511, zq111, zq512, rfl, ⟨by decide, by decide, by decide +kernel⟩⟩
theorem kl_String_1059 : zLS "java/lang/String" 1059 y_Precond_checkIndex b_Precond_checkIndex 3 (some .int) 3 := ⟨zq531, zq532, zq113, zq533, ⟨by decide, by decide, by decide +kernel⟩⟩
theorem kl_String_492 : zLV "java/lang/String" 492 "java/lang/String" y_String_isLatin1 b_String_isLatin1 1 (some .boolean) 0 := ⟨zq519, zq520, zq521, zq111, zq522, rfl, ⟨by decide, by decide, by decide +kernel⟩⟩
theorem kl_String_495 : zLS "java/lang/String" 495 y_Latin1_charAt b_Latin1_charAt 2 (some .char) 2 := ⟨zq523, zq524, zq112, zq525, ⟨by decide, by decide, by decide +kernel⟩⟩
theorem kl_Latin1_9 : zLS "java/lang/StringLatin1" 9 y_String_checkIndex b_String_checkIndex 2 none 2 := ⟨zq526, zq527, zq111, zq528, ⟨by decide, by decide, by decide +kernel⟩⟩
theorem gf_Row_13 {G : zLA} {p : Program} {l : Launch} {e : Env} {R : Room} {s : State} {m : MethodId} {args : Array Value} {below : List Frame} {meth : Method} {c : Code} {cells slots : Nat} {Q : State → Prop} {cc : ByteArray} {nL : Nat} {ret : Option FieldType} {pc : Nat} {lv : List (Nat × Value)} {st : List Value} {σ : zSt} (C : zCx G p s m args meth c "VillageWaves$Row" cc nL ret) {g o : Nat} {fs : List Value} {v : Value} (hlive : (g, o) ∈ zL G) (he : zct G σ g o = .inr (4, fs)) (hv : fs[0]? = some v) (d : decode cc pc = .ok (.getfield 13, 3)) (kk : zWV G p l e R s m args below meth c nL cells slots Q (pc + 3) lv (v :: st) σ) : zWV G p l e R s m args below meth c nL cells slots Q pc lv (.ref (zad G g o) :: st) σ :=
  z_get C zin_4 rfl 0 (by decide) zq141 rfl hlive he hv d kk
theorem kl_Row_19 : zLS "VillageWaves$Row" 19 y_Arrays_fill b_Arrays_fill 4 none 2 := ⟨zq325, zq326, zq102, zq327, ⟨by decide, by decide, by decide +kernel⟩⟩
theorem pf_Journal_9 {G : zLA} {p : Program} {l : Launch} {e : Env} {R : Room} {s : State} {m : MethodId} {args : Array Value} {below : List Frame} {meth : Method} {c : Code} {cells slots : Nat} {Q : State → Prop} {cc : ByteArray} {nL : Nat} {ret : Option FieldType} {pc : Nat} {lv : List (Nat × Value)} {st : List Value} {σ : zSt} (C : zCx G p s m args meth c "VillageWaves$Journal" cc nL ret) {g o : Nat} {fs : List Value} {v : Int32} (hlive : (g, o) ∈ zL G) (he : zct G σ g o = .inr (2, fs)) (hl0 : 0 < fs.length) (hset : zshp G g o (upd (σ.1 g o) 0 v) (σ.2.1 o) (σ.2.2 o) = .inr (2, fs.set 0 (.int v))) (d : decode cc pc = .ok (.putfield 9, 3)) (kk : zWV G p l e R s m args below meth c nL cells slots Q (pc + 3) lv st (zst σ g o 0 v)) : zWV G p l e R s m args below meth c nL cells slots Q pc lv (.int v :: .ref (zad G g o) :: st) σ :=
  z_put C zin_2 zy2 zn2 rfl 0 (by decide) zq288 rfl rfl rfl hlive he hl0 hset d kk
theorem gf_Journal_9 {G : zLA} {p : Program} {l : Launch} {e : Env} {R : Room} {s : State} {m : MethodId} {args : Array Value} {below : List Frame} {meth : Method} {c : Code} {cells slots : Nat} {Q : State → Prop} {cc : ByteArray} {nL : Nat} {ret : Option FieldType} {pc : Nat} {lv : List (Nat × Value)} {st : List Value} {σ : zSt} (C : zCx G p s m args meth c "VillageWaves$Journal" cc nL ret) {g o : Nat} {fs : List Value} {v : Value} (hlive : (g, o) ∈ zL G) (he : zct G σ g o = .inr (2, fs)) (hv : fs[0]? = some v) (d : decode cc pc = .ok (.getfield 9, 3)) (kk : zWV G p l e R s m args below meth c nL cells slots Q (pc + 3) lv (v :: st) σ) : zWV G p l e R s m args below meth c nL cells slots Q pc lv (.ref (zad G g o) :: st) σ :=
  z_get C zin_2 rfl 0 (by decide) zq288 rfl hlive he hv d kk
theorem gf_Journal_20 {G : zLA} {p : Program} {l : Launch} {e : Env} {R : Room} {s : State} {m : MethodId} {args : Array Value} {below : List Frame} {meth : Method} {c : Code} {cells slots : Nat} {Q : State → Prop} {cc : ByteArray} {nL : Nat} {ret : Option FieldType} {pc : Nat} {lv : List (Nat × Value)} {st : List Value} {σ : zSt} (C : zCx G p s m args meth c "VillageWaves$Journal" cc nL ret) {g o : Nat} {fs : List Value} {v : Value} (hlive : (g, o) ∈ zL G) (he : zct G σ g o = .inr (2, fs)) (hv : fs[1]? = some v) (d : decode cc pc = .ok (.getfield 20, 3)) (kk : zWV G p l e R s m args below meth c nL cells slots Q (pc + 3) lv (v :: st) σ) : zWV G p l e R s m args below meth c nL cells slots Q pc lv (.ref (zad G g o) :: st) σ :=
  z_get C zin_2 rfl 1 (by decide) zq290 rfl hlive he hv d kk
theorem kl_Journal_24 : zLV "VillageWaves$Journal" 24 "VillageWaves$Row" y_Row_copyFrom b_Row_copyFrom 2 none 1 := ⟨zq669, zq643, zq644, zq96, zq645, rfl, ⟨by decide, by decide, by decide +kernel⟩⟩
theorem kl_Journal_28 : zLV "VillageWaves$Journal" 28 "VillageWaves$Row" y_Row_put b_Row_put 3 none 2 := ⟨zq1145, zq306, zq307, zq96, zq308, rfl, ⟨by decide, by decide, by decide +kernel⟩⟩
theorem kl_Journal_32 : zLV "VillageWaves$Journal" 32 "VillageWaves$Row" y_Row_get b_Row_get 2 (some .int) 1 := ⟨zq1069, zq476, zq477, zq96, zq478, rfl, ⟨by decide, by decide, by decide +kernel⟩⟩
theorem gf_Entries_14 {G : zLA} {p : Program} {l : Launch} {e : Env} {R : Room} {s : State} {m : MethodId} {args : Array Value} {below : List Frame} {meth : Method} {c : Code} {cells slots : Nat} {Q : State → Prop} {cc : ByteArray} {nL : Nat} {ret : Option FieldType} {pc : Nat} {lv : List (Nat × Value)} {st : List Value} {σ : zSt} (C : zCx G p s m args meth c "VillageWaves$Entries" cc nL ret) {g o : Nat} {fs : List Value} {v : Value} (hlive : (g, o) ∈ zL G) (he : zct G σ g o = .inr (0, fs)) (hv : fs[0]? = some v) (d : decode cc pc = .ok (.getfield 14, 3)) (kk : zWV G p l e R s m args below meth c nL cells slots Q (pc + 3) lv (v :: st) σ) : zWV G p l e R s m args below meth c nL cells slots Q pc lv (.ref (zad G g o) :: st) σ :=
  z_get C zin_0 rfl 0 (by decide) zq272 rfl hlive he hv d kk
theorem kl_Entries_23 : zLV "VillageWaves$Entries" 23 "VillageWaves$Row" y_Row_fill b_Row_fill 2 none 1 := ⟨zq321, zq322, zq323, zq96, zq324, rfl, ⟨by decide, by decide, by decide +kernel⟩⟩
theorem kl_Entries_26 : zLV "VillageWaves$Entries" 26 "VillageWaves$Row" y_Row_copyFrom b_Row_copyFrom 2 none 1 := ⟨zq664, zq643, zq644, zq96, zq645, rfl, ⟨by decide, by decide, by decide +kernel⟩⟩
theorem gf_Entries_20 {G : zLA} {p : Program} {l : Launch} {e : Env} {R : Room} {s : State} {m : MethodId} {args : Array Value} {below : List Frame} {meth : Method} {c : Code} {cells slots : Nat} {Q : State → Prop} {cc : ByteArray} {nL : Nat} {ret : Option FieldType} {pc : Nat} {lv : List (Nat × Value)} {st : List Value} {σ : zSt} (C : zCx G p s m args meth c "VillageWaves$Entries" cc nL ret) {g o : Nat} {fs : List Value} {v : Value} (hlive : (g, o) ∈ zL G) (he : zct G σ g o = .inr (0, fs)) (hv : fs[1]? = some v) (d : decode cc pc = .ok (.getfield 20, 3)) (kk : zWV G p l e R s m args below meth c nL cells slots Q (pc + 3) lv (v :: st) σ) : zWV G p l e R s m args below meth c nL cells slots Q pc lv (.ref (zad G g o) :: st) σ :=
  z_get C zin_0 rfl 1 (by decide) zq274 rfl hlive he hv d kk
theorem kl_Entries_30 : zLV "VillageWaves$Entries" 30 "VillageWaves$Row" y_Row_join b_Row_join 3 none 2 := ⟨zq635, zq590, zq591, zq96, zq592, rfl, ⟨by decide, by decide, by decide +kernel⟩⟩
theorem kl_Entries_34 : zLSN "VillageWaves$Entries" 34 y_Waves_cell "VillageWaves" b_Waves_cell 2 (some .int) 2 := ⟨zp636, zq629, zq94, zq630, ⟨by decide, by decide, by decide +kernel⟩⟩
theorem kl_Entries_38 : zLV "VillageWaves$Entries" 38 "VillageWaves$Row" y_Row_put b_Row_put 3 none 2 := ⟨zq637, zq306, zq307, zq96, zq308, rfl, ⟨by decide, by decide, by decide +kernel⟩⟩
theorem kl_Entries_41 : zLV "VillageWaves$Entries" 41 "VillageWaves$Row" y_Row_leave b_Row_leave 3 none 2 := ⟨zq1099, zq1100, zq1101, zq96, zq1102, rfl, ⟨by decide, by decide, by decide +kernel⟩⟩
theorem kl_Entries_44 : zLV "VillageWaves$Entries" 44 "VillageWaves$Row" y_Row_get b_Row_get 2 (some .int) 1 := ⟨zq962, zq476, zq477, zq96, zq478, rfl, ⟨by decide, by decide, by decide +kernel⟩⟩
theorem kl_Entries_48 : zLS "VillageWaves$Entries" 48 y_Integer_bitCount b_Integer_bitCount 1 (some .int) 1 := ⟨zq963, zq964, zq117, zq965, ⟨by decide, by decide, by decide +kernel⟩⟩
theorem kl_Entries_53 : zLV "VillageWaves$Entries" 53 "VillageWaves$Entries" y_Entries_size b_Entries_size 2 (some .int) 1 := ⟨zq958, zq959, zq960, zq100, zq961, rfl, ⟨by decide, by decide, by decide +kernel⟩⟩
theorem kl_Entries_56 : zLV "VillageWaves$Entries" 56 "VillageWaves$Entries" y_Entries_time b_Entries_time 3 (some .int) 2 := ⟨zq1011, zq1012, zq1013, zq100, zq1014, rfl, ⟨by decide, by decide, by decide +kernel⟩⟩
theorem kl_Entries_59 : zLSN "VillageWaves$Entries" 59 y_Waves_contains "VillageWaves" b_Waves_contains 2 (some .boolean) 2 := ⟨zp1015, zq715, zq94, zq716, ⟨by decide, by decide, by decide +kernel⟩⟩
theorem kl_Entries_63 : zLV "VillageWaves$Entries" 63 "VillageWaves$Entries" y_Entries_first b_Entries_first 6 (some .int) 2 := ⟨zq1007, zq1008, zq1009, zq100, zq1010, rfl, ⟨by decide, by decide, by decide +kernel⟩⟩
theorem kl_Entries_66 : zLSN "VillageWaves$Entries" 66 y_Waves_bit "VillageWaves" b_Waves_bit 1 (some .int) 1 := ⟨zp1016, zq626, zq94, zq627, ⟨by decide, by decide, by decide +kernel⟩⟩
theorem pf_Tidings_9 {G : zLA} {p : Program} {l : Launch} {e : Env} {R : Room} {s : State} {m : MethodId} {args : Array Value} {below : List Frame} {meth : Method} {c : Code} {cells slots : Nat} {Q : State → Prop} {cc : ByteArray} {nL : Nat} {ret : Option FieldType} {pc : Nat} {lv : List (Nat × Value)} {st : List Value} {σ : zSt} (C : zCx G p s m args meth c "VillageWaves$Tidings" cc nL ret) {g o : Nat} {fs : List Value} {v : Int32} (hlive : (g, o) ∈ zL G) (he : zct G σ g o = .inr (6, fs)) (hl0 : 0 < fs.length) (hset : zshp G g o (upd (σ.1 g o) 0 v) (σ.2.1 o) (σ.2.2 o) = .inr (6, fs.set 0 (.int v))) (d : decode cc pc = .ok (.putfield 9, 3)) (kk : zWV G p l e R s m args below meth c nL cells slots Q (pc + 3) lv st (zst σ g o 0 v)) : zWV G p l e R s m args below meth c nL cells slots Q pc lv (.int v :: .ref (zad G g o) :: st) σ :=
  z_put C zin_6 zy6 zn6 rfl 0 (by decide) zq216 rfl rfl rfl hlive he hl0 hset d kk
theorem gf_Tidings_9 {G : zLA} {p : Program} {l : Launch} {e : Env} {R : Room} {s : State} {m : MethodId} {args : Array Value} {below : List Frame} {meth : Method} {c : Code} {cells slots : Nat} {Q : State → Prop} {cc : ByteArray} {nL : Nat} {ret : Option FieldType} {pc : Nat} {lv : List (Nat × Value)} {st : List Value} {σ : zSt} (C : zCx G p s m args meth c "VillageWaves$Tidings" cc nL ret) {g o : Nat} {fs : List Value} {v : Value} (hlive : (g, o) ∈ zL G) (he : zct G σ g o = .inr (6, fs)) (hv : fs[0]? = some v) (d : decode cc pc = .ok (.getfield 9, 3)) (kk : zWV G p l e R s m args below meth c nL cells slots Q (pc + 3) lv (v :: st) σ) : zWV G p l e R s m args below meth c nL cells slots Q pc lv (.ref (zad G g o) :: st) σ :=
  z_get C zin_6 rfl 0 (by decide) zq216 rfl hlive he hv d kk
theorem gf_Tidings_20 {G : zLA} {p : Program} {l : Launch} {e : Env} {R : Room} {s : State} {m : MethodId} {args : Array Value} {below : List Frame} {meth : Method} {c : Code} {cells slots : Nat} {Q : State → Prop} {cc : ByteArray} {nL : Nat} {ret : Option FieldType} {pc : Nat} {lv : List (Nat × Value)} {st : List Value} {σ : zSt} (C : zCx G p s m args meth c "VillageWaves$Tidings" cc nL ret) {g o : Nat} {fs : List Value} {v : Value} (hlive : (g, o) ∈ zL G) (he : zct G σ g o = .inr (6, fs)) (hv : fs[1]? = some v) (d : decode cc pc = .ok (.getfield 20, 3)) (kk : zWV G p l e R s m args below meth c nL cells slots Q (pc + 3) lv (v :: st) σ) : zWV G p l e R s m args below meth c nL cells slots Q pc lv (.ref (zad G g o) :: st) σ :=
  z_get C zin_6 rfl 1 (by decide) zq219 rfl hlive he hv d kk
theorem kl_Tidings_48 : zLV "VillageWaves$Tidings" 48 "VillageWaves$Row" y_Row_copyFrom b_Row_copyFrom 2 none 1 := ⟨zq659, zq643, zq644, zq96, zq645, rfl, ⟨by decide, by decide, by decide +kernel⟩⟩
theorem gf_Tidings_24 {G : zLA} {p : Program} {l : Launch} {e : Env} {R : Room} {s : State} {m : MethodId} {args : Array Value} {below : List Frame} {meth : Method} {c : Code} {cells slots : Nat} {Q : State → Prop} {cc : ByteArray} {nL : Nat} {ret : Option FieldType} {pc : Nat} {lv : List (Nat × Value)} {st : List Value} {σ : zSt} (C : zCx G p s m args meth c "VillageWaves$Tidings" cc nL ret) {g o : Nat} {fs : List Value} {v : Value} (hlive : (g, o) ∈ zL G) (he : zct G σ g o = .inr (6, fs)) (hv : fs[2]? = some v) (d : decode cc pc = .ok (.getfield 24, 3)) (kk : zWV G p l e R s m args below meth c nL cells slots Q (pc + 3) lv (v :: st) σ) : zWV G p l e R s m args below meth c nL cells slots Q pc lv (.ref (zad G g o) :: st) σ :=
  z_get C zin_6 rfl 2 (by decide) zq221 rfl hlive he hv d kk
theorem gf_Tidings_27 {G : zLA} {p : Program} {l : Launch} {e : Env} {R : Room} {s : State} {m : MethodId} {args : Array Value} {below : List Frame} {meth : Method} {c : Code} {cells slots : Nat} {Q : State → Prop} {cc : ByteArray} {nL : Nat} {ret : Option FieldType} {pc : Nat} {lv : List (Nat × Value)} {st : List Value} {σ : zSt} (C : zCx G p s m args meth c "VillageWaves$Tidings" cc nL ret) {g o : Nat} {fs : List Value} {v : Value} (hlive : (g, o) ∈ zL G) (he : zct G σ g o = .inr (6, fs)) (hv : fs[3]? = some v) (d : decode cc pc = .ok (.getfield 27, 3)) (kk : zWV G p l e R s m args below meth c nL cells slots Q (pc + 3) lv (v :: st) σ) : zWV G p l e R s m args below meth c nL cells slots Q pc lv (.ref (zad G g o) :: st) σ :=
  z_get C zin_6 rfl 3 (by decide) zq223 rfl hlive he hv d kk
theorem gf_Tidings_30 {G : zLA} {p : Program} {l : Launch} {e : Env} {R : Room} {s : State} {m : MethodId} {args : Array Value} {below : List Frame} {meth : Method} {c : Code} {cells slots : Nat} {Q : State → Prop} {cc : ByteArray} {nL : Nat} {ret : Option FieldType} {pc : Nat} {lv : List (Nat × Value)} {st : List Value} {σ : zSt} (C : zCx G p s m args meth c "VillageWaves$Tidings" cc nL ret) {g o : Nat} {fs : List Value} {v : Value} (hlive : (g, o) ∈ zL G) (he : zct G σ g o = .inr (6, fs)) (hv : fs[4]? = some v) (d : decode cc pc = .ok (.getfield 30, 3)) (kk : zWV G p l e R s m args below meth c nL cells slots Q (pc + 3) lv (v :: st) σ) : zWV G p l e R s m args below meth c nL cells slots Q pc lv (.ref (zad G g o) :: st) σ :=
  z_get C zin_6 rfl 4 (by decide) zq225 rfl hlive he hv d kk
theorem gf_Tidings_33 {G : zLA} {p : Program} {l : Launch} {e : Env} {R : Room} {s : State} {m : MethodId} {args : Array Value} {below : List Frame} {meth : Method} {c : Code} {cells slots : Nat} {Q : State → Prop} {cc : ByteArray} {nL : Nat} {ret : Option FieldType} {pc : Nat} {lv : List (Nat × Value)} {st : List Value} {σ : zSt} (C : zCx G p s m args meth c "VillageWaves$Tidings" cc nL ret) {g o : Nat} {fs : List Value} {v : Value} (hlive : (g, o) ∈ zL G) (he : zct G σ g o = .inr (6, fs)) (hv : fs[5]? = some v) (d : decode cc pc = .ok (.getfield 33, 3)) (kk : zWV G p l e R s m args below meth c nL cells slots Q (pc + 3) lv (v :: st) σ) : zWV G p l e R s m args below meth c nL cells slots Q pc lv (.ref (zad G g o) :: st) σ :=
  z_get C zin_6 rfl 5 (by decide) zq228 rfl hlive he hv d kk
theorem gf_Tidings_36 {G : zLA} {p : Program} {l : Launch} {e : Env} {R : Room} {s : State} {m : MethodId} {args : Array Value} {below : List Frame} {meth : Method} {c : Code} {cells slots : Nat} {Q : State → Prop} {cc : ByteArray} {nL : Nat} {ret : Option FieldType} {pc : Nat} {lv : List (Nat × Value)} {st : List Value} {σ : zSt} (C : zCx G p s m args meth c "VillageWaves$Tidings" cc nL ret) {g o : Nat} {fs : List Value} {v : Value} (hlive : (g, o) ∈ zL G) (he : zct G σ g o = .inr (6, fs)) (hv : fs[6]? = some v) (d : decode cc pc = .ok (.getfield 36, 3)) (kk : zWV G p l e R s m args below meth c nL cells slots Q (pc + 3) lv (v :: st) σ) : zWV G p l e R s m args below meth c nL cells slots Q pc lv (.ref (zad G g o) :: st) σ :=
  z_get C zin_6 rfl 6 (by decide) zq231 rfl hlive he hv d kk
theorem gf_Tidings_39 {G : zLA} {p : Program} {l : Launch} {e : Env} {R : Room} {s : State} {m : MethodId} {args : Array Value} {below : List Frame} {meth : Method} {c : Code} {cells slots : Nat} {Q : State → Prop} {cc : ByteArray} {nL : Nat} {ret : Option FieldType} {pc : Nat} {lv : List (Nat × Value)} {st : List Value} {σ : zSt} (C : zCx G p s m args meth c "VillageWaves$Tidings" cc nL ret) {g o : Nat} {fs : List Value} {v : Value} (hlive : (g, o) ∈ zL G) (he : zct G σ g o = .inr (6, fs)) (hv : fs[7]? = some v) (d : decode cc pc = .ok (.getfield 39, 3)) (kk : zWV G p l e R s m args below meth c nL cells slots Q (pc + 3) lv (v :: st) σ) : zWV G p l e R s m args below meth c nL cells slots Q pc lv (.ref (zad G g o) :: st) σ :=
  z_get C zin_6 rfl 7 (by decide) zq234 rfl hlive he hv d kk
theorem gf_Tidings_42 {G : zLA} {p : Program} {l : Launch} {e : Env} {R : Room} {s : State} {m : MethodId} {args : Array Value} {below : List Frame} {meth : Method} {c : Code} {cells slots : Nat} {Q : State → Prop} {cc : ByteArray} {nL : Nat} {ret : Option FieldType} {pc : Nat} {lv : List (Nat × Value)} {st : List Value} {σ : zSt} (C : zCx G p s m args meth c "VillageWaves$Tidings" cc nL ret) {g o : Nat} {fs : List Value} {v : Value} (hlive : (g, o) ∈ zL G) (he : zct G σ g o = .inr (6, fs)) (hv : fs[8]? = some v) (d : decode cc pc = .ok (.getfield 42, 3)) (kk : zWV G p l e R s m args below meth c nL cells slots Q (pc + 3) lv (v :: st) σ) : zWV G p l e R s m args below meth c nL cells slots Q pc lv (.ref (zad G g o) :: st) σ :=
  z_get C zin_6 rfl 8 (by decide) zq237 rfl hlive he hv d kk
theorem gf_Tidings_45 {G : zLA} {p : Program} {l : Launch} {e : Env} {R : Room} {s : State} {m : MethodId} {args : Array Value} {below : List Frame} {meth : Method} {c : Code} {cells slots : Nat} {Q : State → Prop} {cc : ByteArray} {nL : Nat} {ret : Option FieldType} {pc : Nat} {lv : List (Nat × Value)} {st : List Value} {σ : zSt} (C : zCx G p s m args meth c "VillageWaves$Tidings" cc nL ret) {g o : Nat} {fs : List Value} {v : Value} (hlive : (g, o) ∈ zL G) (he : zct G σ g o = .inr (6, fs)) (hv : fs[9]? = some v) (d : decode cc pc = .ok (.getfield 45, 3)) (kk : zWV G p l e R s m args below meth c nL cells slots Q (pc + 3) lv (v :: st) σ) : zWV G p l e R s m args below meth c nL cells slots Q pc lv (.ref (zad G g o) :: st) σ :=
  z_get C zin_6 rfl 9 (by decide) zq240 rfl hlive he hv d kk
theorem kl_Tidings_52 : zLV "VillageWaves$Tidings" 52 "VillageWaves$Row" y_Row_put b_Row_put 3 none 2 := ⟨zq624, zq306, zq307, zq96, zq308, rfl, ⟨by decide, by decide, by decide +kernel⟩⟩
theorem kl_Tidings_56 : zLSN "VillageWaves$Tidings" 56 y_Waves_bit "VillageWaves" b_Waves_bit 1 (some .int) 1 := ⟨zp625, zq626, zq94, zq627, ⟨by decide, by decide, by decide +kernel⟩⟩
theorem kl_Tidings_60 : zLV "VillageWaves$Tidings" 60 "VillageWaves$Row" y_Row_get b_Row_get 2 (some .int) 1 := ⟨zq953, zq476, zq477, zq96, zq478, rfl, ⟨by decide, by decide, by decide +kernel⟩⟩
theorem kl_Tidings_63 : zLV "VillageWaves$Tidings" 63 "VillageWaves$Tidings" y_Tidings_isCorrected b_Tidings_isCorrected 2 (some .boolean) 1 := ⟨zq949, zq950, zq951, zq99, zq952, rfl, ⟨by decide, by decide, by decide +kernel⟩⟩
theorem kl_Tidings_67 : zLSN "VillageWaves$Tidings" 67 y_Waves_contains "VillageWaves" b_Waves_contains 2 (some .boolean) 2 := ⟨zp981, zq715, zq94, zq716, ⟨by decide, by decide, by decide +kernel⟩⟩
theorem kl_Tidings_71 : zLV "VillageWaves$Tidings" 71 "VillageWaves$Tidings" y_Tidings_uncorrectedHouses b_Tidings_uncorrectedHouses 2 (some .int) 1 := ⟨zq990, zq991, zq992, zq99, zq993, rfl, ⟨by decide, by decide, by decide +kernel⟩⟩
theorem pf_Homes_9 {G : zLA} {p : Program} {l : Launch} {e : Env} {R : Room} {s : State} {m : MethodId} {args : Array Value} {below : List Frame} {meth : Method} {c : Code} {cells slots : Nat} {Q : State → Prop} {cc : ByteArray} {nL : Nat} {ret : Option FieldType} {pc : Nat} {lv : List (Nat × Value)} {st : List Value} {σ : zSt} (C : zCx G p s m args meth c "VillageWaves$Homes" cc nL ret) {g o : Nat} {fs : List Value} {v : Int32} (hlive : (g, o) ∈ zL G) (he : zct G σ g o = .inr (1, fs)) (hl0 : 0 < fs.length) (hset : zshp G g o (upd (σ.1 g o) 0 v) (σ.2.1 o) (σ.2.2 o) = .inr (1, fs.set 0 (.int v))) (d : decode cc pc = .ok (.putfield 9, 3)) (kk : zWV G p l e R s m args below meth c nL cells slots Q (pc + 3) lv st (zst σ g o 0 v)) : zWV G p l e R s m args below meth c nL cells slots Q pc lv (.int v :: .ref (zad G g o) :: st) σ :=
  z_put C zin_1 zy1 zn1 rfl 0 (by decide) zq154 rfl rfl rfl hlive he hl0 hset d kk
theorem gf_Homes_9 {G : zLA} {p : Program} {l : Launch} {e : Env} {R : Room} {s : State} {m : MethodId} {args : Array Value} {below : List Frame} {meth : Method} {c : Code} {cells slots : Nat} {Q : State → Prop} {cc : ByteArray} {nL : Nat} {ret : Option FieldType} {pc : Nat} {lv : List (Nat × Value)} {st : List Value} {σ : zSt} (C : zCx G p s m args meth c "VillageWaves$Homes" cc nL ret) {g o : Nat} {fs : List Value} {v : Value} (hlive : (g, o) ∈ zL G) (he : zct G σ g o = .inr (1, fs)) (hv : fs[0]? = some v) (d : decode cc pc = .ok (.getfield 9, 3)) (kk : zWV G p l e R s m args below meth c nL cells slots Q (pc + 3) lv (v :: st) σ) : zWV G p l e R s m args below meth c nL cells slots Q pc lv (.ref (zad G g o) :: st) σ :=
  z_get C zin_1 rfl 0 (by decide) zq154 rfl hlive he hv d kk
theorem gf_Homes_20 {G : zLA} {p : Program} {l : Launch} {e : Env} {R : Room} {s : State} {m : MethodId} {args : Array Value} {below : List Frame} {meth : Method} {c : Code} {cells slots : Nat} {Q : State → Prop} {cc : ByteArray} {nL : Nat} {ret : Option FieldType} {pc : Nat} {lv : List (Nat × Value)} {st : List Value} {σ : zSt} (C : zCx G p s m args meth c "VillageWaves$Homes" cc nL ret) {g o : Nat} {fs : List Value} {v : Value} (hlive : (g, o) ∈ zL G) (he : zct G σ g o = .inr (1, fs)) (hv : fs[1]? = some v) (d : decode cc pc = .ok (.getfield 20, 3)) (kk : zWV G p l e R s m args below meth c nL cells slots Q (pc + 3) lv (v :: st) σ) : zWV G p l e R s m args below meth c nL cells slots Q pc lv (.ref (zad G g o) :: st) σ :=
  z_get C zin_1 rfl 1 (by decide) zq158 rfl hlive he hv d kk
theorem kl_Homes_51 : zLV "VillageWaves$Homes" 51 "VillageWaves$Row" y_Row_copyFrom b_Row_copyFrom 2 none 1 := ⟨zq654, zq643, zq644, zq96, zq645, rfl, ⟨by decide, by decide, by decide +kernel⟩⟩
theorem gf_Homes_24 {G : zLA} {p : Program} {l : Launch} {e : Env} {R : Room} {s : State} {m : MethodId} {args : Array Value} {below : List Frame} {meth : Method} {c : Code} {cells slots : Nat} {Q : State → Prop} {cc : ByteArray} {nL : Nat} {ret : Option FieldType} {pc : Nat} {lv : List (Nat × Value)} {st : List Value} {σ : zSt} (C : zCx G p s m args meth c "VillageWaves$Homes" cc nL ret) {g o : Nat} {fs : List Value} {v : Value} (hlive : (g, o) ∈ zL G) (he : zct G σ g o = .inr (1, fs)) (hv : fs[2]? = some v) (d : decode cc pc = .ok (.getfield 24, 3)) (kk : zWV G p l e R s m args below meth c nL cells slots Q (pc + 3) lv (v :: st) σ) : zWV G p l e R s m args below meth c nL cells slots Q pc lv (.ref (zad G g o) :: st) σ :=
  z_get C zin_1 rfl 2 (by decide) zq160 rfl hlive he hv d kk
theorem gf_Homes_27 {G : zLA} {p : Program} {l : Launch} {e : Env} {R : Room} {s : State} {m : MethodId} {args : Array Value} {below : List Frame} {meth : Method} {c : Code} {cells slots : Nat} {Q : State → Prop} {cc : ByteArray} {nL : Nat} {ret : Option FieldType} {pc : Nat} {lv : List (Nat × Value)} {st : List Value} {σ : zSt} (C : zCx G p s m args meth c "VillageWaves$Homes" cc nL ret) {g o : Nat} {fs : List Value} {v : Value} (hlive : (g, o) ∈ zL G) (he : zct G σ g o = .inr (1, fs)) (hv : fs[3]? = some v) (d : decode cc pc = .ok (.getfield 27, 3)) (kk : zWV G p l e R s m args below meth c nL cells slots Q (pc + 3) lv (v :: st) σ) : zWV G p l e R s m args below meth c nL cells slots Q pc lv (.ref (zad G g o) :: st) σ :=
  z_get C zin_1 rfl 3 (by decide) zq162 rfl hlive he hv d kk
theorem gf_Homes_30 {G : zLA} {p : Program} {l : Launch} {e : Env} {R : Room} {s : State} {m : MethodId} {args : Array Value} {below : List Frame} {meth : Method} {c : Code} {cells slots : Nat} {Q : State → Prop} {cc : ByteArray} {nL : Nat} {ret : Option FieldType} {pc : Nat} {lv : List (Nat × Value)} {st : List Value} {σ : zSt} (C : zCx G p s m args meth c "VillageWaves$Homes" cc nL ret) {g o : Nat} {fs : List Value} {v : Value} (hlive : (g, o) ∈ zL G) (he : zct G σ g o = .inr (1, fs)) (hv : fs[4]? = some v) (d : decode cc pc = .ok (.getfield 30, 3)) (kk : zWV G p l e R s m args below meth c nL cells slots Q (pc + 3) lv (v :: st) σ) : zWV G p l e R s m args below meth c nL cells slots Q pc lv (.ref (zad G g o) :: st) σ :=
  z_get C zin_1 rfl 4 (by decide) zq164 rfl hlive he hv d kk
theorem gf_Homes_33 {G : zLA} {p : Program} {l : Launch} {e : Env} {R : Room} {s : State} {m : MethodId} {args : Array Value} {below : List Frame} {meth : Method} {c : Code} {cells slots : Nat} {Q : State → Prop} {cc : ByteArray} {nL : Nat} {ret : Option FieldType} {pc : Nat} {lv : List (Nat × Value)} {st : List Value} {σ : zSt} (C : zCx G p s m args meth c "VillageWaves$Homes" cc nL ret) {g o : Nat} {fs : List Value} {v : Value} (hlive : (g, o) ∈ zL G) (he : zct G σ g o = .inr (1, fs)) (hv : fs[5]? = some v) (d : decode cc pc = .ok (.getfield 33, 3)) (kk : zWV G p l e R s m args below meth c nL cells slots Q (pc + 3) lv (v :: st) σ) : zWV G p l e R s m args below meth c nL cells slots Q pc lv (.ref (zad G g o) :: st) σ :=
  z_get C zin_1 rfl 5 (by decide) zq167 rfl hlive he hv d kk
theorem gf_Homes_36 {G : zLA} {p : Program} {l : Launch} {e : Env} {R : Room} {s : State} {m : MethodId} {args : Array Value} {below : List Frame} {meth : Method} {c : Code} {cells slots : Nat} {Q : State → Prop} {cc : ByteArray} {nL : Nat} {ret : Option FieldType} {pc : Nat} {lv : List (Nat × Value)} {st : List Value} {σ : zSt} (C : zCx G p s m args meth c "VillageWaves$Homes" cc nL ret) {g o : Nat} {fs : List Value} {v : Value} (hlive : (g, o) ∈ zL G) (he : zct G σ g o = .inr (1, fs)) (hv : fs[6]? = some v) (d : decode cc pc = .ok (.getfield 36, 3)) (kk : zWV G p l e R s m args below meth c nL cells slots Q (pc + 3) lv (v :: st) σ) : zWV G p l e R s m args below meth c nL cells slots Q pc lv (.ref (zad G g o) :: st) σ :=
  z_get C zin_1 rfl 6 (by decide) zq170 rfl hlive he hv d kk
theorem gf_Homes_39 {G : zLA} {p : Program} {l : Launch} {e : Env} {R : Room} {s : State} {m : MethodId} {args : Array Value} {below : List Frame} {meth : Method} {c : Code} {cells slots : Nat} {Q : State → Prop} {cc : ByteArray} {nL : Nat} {ret : Option FieldType} {pc : Nat} {lv : List (Nat × Value)} {st : List Value} {σ : zSt} (C : zCx G p s m args meth c "VillageWaves$Homes" cc nL ret) {g o : Nat} {fs : List Value} {v : Value} (hlive : (g, o) ∈ zL G) (he : zct G σ g o = .inr (1, fs)) (hv : fs[7]? = some v) (d : decode cc pc = .ok (.getfield 39, 3)) (kk : zWV G p l e R s m args below meth c nL cells slots Q (pc + 3) lv (v :: st) σ) : zWV G p l e R s m args below meth c nL cells slots Q pc lv (.ref (zad G g o) :: st) σ :=
  z_get C zin_1 rfl 7 (by decide) zq173 rfl hlive he hv d kk
theorem gf_Homes_42 {G : zLA} {p : Program} {l : Launch} {e : Env} {R : Room} {s : State} {m : MethodId} {args : Array Value} {below : List Frame} {meth : Method} {c : Code} {cells slots : Nat} {Q : State → Prop} {cc : ByteArray} {nL : Nat} {ret : Option FieldType} {pc : Nat} {lv : List (Nat × Value)} {st : List Value} {σ : zSt} (C : zCx G p s m args meth c "VillageWaves$Homes" cc nL ret) {g o : Nat} {fs : List Value} {v : Value} (hlive : (g, o) ∈ zL G) (he : zct G σ g o = .inr (1, fs)) (hv : fs[8]? = some v) (d : decode cc pc = .ok (.getfield 42, 3)) (kk : zWV G p l e R s m args below meth c nL cells slots Q (pc + 3) lv (v :: st) σ) : zWV G p l e R s m args below meth c nL cells slots Q pc lv (.ref (zad G g o) :: st) σ :=
  z_get C zin_1 rfl 8 (by decide) zq176 rfl hlive he hv d kk
theorem gf_Homes_45 {G : zLA} {p : Program} {l : Launch} {e : Env} {R : Room} {s : State} {m : MethodId} {args : Array Value} {below : List Frame} {meth : Method} {c : Code} {cells slots : Nat} {Q : State → Prop} {cc : ByteArray} {nL : Nat} {ret : Option FieldType} {pc : Nat} {lv : List (Nat × Value)} {st : List Value} {σ : zSt} (C : zCx G p s m args meth c "VillageWaves$Homes" cc nL ret) {g o : Nat} {fs : List Value} {v : Value} (hlive : (g, o) ∈ zL G) (he : zct G σ g o = .inr (1, fs)) (hv : fs[9]? = some v) (d : decode cc pc = .ok (.getfield 45, 3)) (kk : zWV G p l e R s m args below meth c nL cells slots Q (pc + 3) lv (v :: st) σ) : zWV G p l e R s m args below meth c nL cells slots Q pc lv (.ref (zad G g o) :: st) σ :=
  z_get C zin_1 rfl 9 (by decide) zq179 rfl hlive he hv d kk
theorem gf_Homes_48 {G : zLA} {p : Program} {l : Launch} {e : Env} {R : Room} {s : State} {m : MethodId} {args : Array Value} {below : List Frame} {meth : Method} {c : Code} {cells slots : Nat} {Q : State → Prop} {cc : ByteArray} {nL : Nat} {ret : Option FieldType} {pc : Nat} {lv : List (Nat × Value)} {st : List Value} {σ : zSt} (C : zCx G p s m args meth c "VillageWaves$Homes" cc nL ret) {g o : Nat} {fs : List Value} {v : Value} (hlive : (g, o) ∈ zL G) (he : zct G σ g o = .inr (1, fs)) (hv : fs[10]? = some v) (d : decode cc pc = .ok (.getfield 48, 3)) (kk : zWV G p l e R s m args below meth c nL cells slots Q (pc + 3) lv (v :: st) σ) : zWV G p l e R s m args below meth c nL cells slots Q pc lv (.ref (zad G g o) :: st) σ :=
  z_get C zin_1 rfl 10 (by decide) zq182 rfl hlive he hv d kk
theorem kl_Homes_66 : zLV "VillageWaves$Homes" 66 "VillageWaves$Row" y_Row_get b_Row_get 2 (some .int) 1 := ⟨zq588, zq476, zq477, zq96, zq478, rfl, ⟨by decide, by decide, by decide +kernel⟩⟩
theorem kl_Homes_62 : zLV "VillageWaves$Homes" 62 "VillageWaves$Homes" y_Homes_distance b_Homes_distance 5 (some .int) 2 := ⟨zq584, zq586, zq7, zq98, zq587, rfl, ⟨by decide, by decide, by decide +kernel⟩⟩
theorem kl_Homes_70 : zLV "VillageWaves$Homes" 70 "VillageWaves$Row" y_Row_join b_Row_join 3 none 2 := ⟨zq589, zq590, zq591, zq96, zq592, rfl, ⟨by decide, by decide, by decide +kernel⟩⟩
theorem kl_Homes_55 : zLV "VillageWaves$Homes" 55 "VillageWaves$Row" y_Row_put b_Row_put 3 none 2 := ⟨zq579, zq306, zq307, zq96, zq308, rfl, ⟨by decide, by decide, by decide +kernel⟩⟩
theorem kl_Homes_59 : zLV "VillageWaves$Homes" 59 "VillageWaves$Homes" y_Homes_noteRange b_Homes_noteRange 3 none 2 := ⟨zq580, zq582, zq6, zq98, zq583, rfl, ⟨by decide, by decide, by decide +kernel⟩⟩
theorem kl_Homes_81 : zLV "VillageWaves$Homes" 81 "VillageWaves$Homes" y_Homes_addToBattery b_Homes_addToBattery 3 none 2 := ⟨zq700, zq701, zq702, zq98, zq703, rfl, ⟨by decide, by decide, by decide +kernel⟩⟩
theorem kl_Homes_84 : zLV "VillageWaves$Homes" 84 "VillageWaves$Homes" y_Homes_isQuiet b_Homes_isQuiet 5 (some .boolean) 2 := ⟨zq943, zq727, zq728, zq98, zq729, rfl, ⟨by decide, by decide, by decide +kernel⟩⟩
theorem kl_Homes_88 : zLSN "VillageWaves$Homes" 88 y_Waves_bit "VillageWaves" b_Waves_bit 1 (some .int) 1 := ⟨zp944, zq626, zq94, zq627, ⟨by decide, by decide, by decide +kernel⟩⟩
theorem kl_Homes_91 : zLSN "VillageWaves$Homes" 91 y_Waves_contains "VillageWaves" b_Waves_contains 2 (some .boolean) 2 := ⟨zp742, zq715, zq94, zq716, ⟨by decide, by decide, by decide +kernel⟩⟩
theorem kl_Homes_94 : zLV "VillageWaves$Homes" 94 "VillageWaves$Homes" y_Homes_nearerThan b_Homes_nearerThan 7 (some .int) 2 := ⟨zq1178, zq1180, zq24, zq98, zq1181, rfl, ⟨by decide, by decide, by decide +kernel⟩⟩
theorem kl_Homes_97 : zLV "VillageWaves$Homes" 97 "VillageWaves$Homes" y_Homes_rangesOf b_Homes_rangesOf 4 (some .int) 1 := ⟨zq1193, zq1195, zq25, zq98, zq1196, rfl, ⟨by decide, by decide, by decide +kernel⟩⟩
theorem pf_Village_9 {G : zLA} {p : Program} {l : Launch} {e : Env} {R : Room} {s : State} {m : MethodId} {args : Array Value} {below : List Frame} {meth : Method} {c : Code} {cells slots : Nat} {Q : State → Prop} {cc : ByteArray} {nL : Nat} {ret : Option FieldType} {pc : Nat} {lv : List (Nat × Value)} {st : List Value} {σ : zSt} (C : zCx G p s m args meth c "VillageWaves$Village" cc nL ret) {g o : Nat} {fs : List Value} {v : Int32} (hlive : (g, o) ∈ zL G) (he : zct G σ g o = .inr (7, fs)) (hl0 : 0 < fs.length) (hset : zshp G g o (upd (σ.1 g o) 0 v) (σ.2.1 o) (σ.2.2 o) = .inr (7, fs.set 0 (.int v))) (d : decode cc pc = .ok (.putfield 9, 3)) (kk : zWV G p l e R s m args below meth c nL cells slots Q (pc + 3) lv st (zst σ g o 0 v)) : zWV G p l e R s m args below meth c nL cells slots Q pc lv (.int v :: .ref (zad G g o) :: st) σ :=
  z_put C zin_7 zy7 zn7 rfl 0 (by decide) zq332 rfl rfl rfl hlive he hl0 hset d kk
theorem pf_Village_15 {G : zLA} {p : Program} {l : Launch} {e : Env} {R : Room} {s : State} {m : MethodId} {args : Array Value} {below : List Frame} {meth : Method} {c : Code} {cells slots : Nat} {Q : State → Prop} {cc : ByteArray} {nL : Nat} {ret : Option FieldType} {pc : Nat} {lv : List (Nat × Value)} {st : List Value} {σ : zSt} (C : zCx G p s m args meth c "VillageWaves$Village" cc nL ret) {g o : Nat} {fs : List Value} {v : Int32} (hlive : (g, o) ∈ zL G) (he : zct G σ g o = .inr (7, fs)) (hl0 : 1 < fs.length) (hset : zshp G g o (upd (σ.1 g o) 1 v) (σ.2.1 o) (σ.2.2 o) = .inr (7, fs.set 1 (.int v))) (d : decode cc pc = .ok (.putfield 15, 3)) (kk : zWV G p l e R s m args below meth c nL cells slots Q (pc + 3) lv st (zst σ g o 1 v)) : zWV G p l e R s m args below meth c nL cells slots Q pc lv (.int v :: .ref (zad G g o) :: st) σ :=
  z_put C zin_7 zy7 zn7 rfl 1 (by decide) zq335 rfl rfl rfl hlive he hl0 hset d kk
theorem pf_Village_18 {G : zLA} {p : Program} {l : Launch} {e : Env} {R : Room} {s : State} {m : MethodId} {args : Array Value} {below : List Frame} {meth : Method} {c : Code} {cells slots : Nat} {Q : State → Prop} {cc : ByteArray} {nL : Nat} {ret : Option FieldType} {pc : Nat} {lv : List (Nat × Value)} {st : List Value} {σ : zSt} (C : zCx G p s m args meth c "VillageWaves$Village" cc nL ret) {g o : Nat} {fs : List Value} {v : Int32} (hlive : (g, o) ∈ zL G) (he : zct G σ g o = .inr (7, fs)) (hl0 : 2 < fs.length) (hset : zshp G g o (upd (σ.1 g o) 2 v) (σ.2.1 o) (σ.2.2 o) = .inr (7, fs.set 2 (.int v))) (d : decode cc pc = .ok (.putfield 18, 3)) (kk : zWV G p l e R s m args below meth c nL cells slots Q (pc + 3) lv st (zst σ g o 2 v)) : zWV G p l e R s m args below meth c nL cells slots Q pc lv (.int v :: .ref (zad G g o) :: st) σ :=
  z_put C zin_7 zy7 zn7 rfl 2 (by decide) zq337 rfl rfl rfl hlive he hl0 hset d kk
theorem pf_Village_21 {G : zLA} {p : Program} {l : Launch} {e : Env} {R : Room} {s : State} {m : MethodId} {args : Array Value} {below : List Frame} {meth : Method} {c : Code} {cells slots : Nat} {Q : State → Prop} {cc : ByteArray} {nL : Nat} {ret : Option FieldType} {pc : Nat} {lv : List (Nat × Value)} {st : List Value} {σ : zSt} (C : zCx G p s m args meth c "VillageWaves$Village" cc nL ret) {g o : Nat} {fs : List Value} {v : Int32} (hlive : (g, o) ∈ zL G) (he : zct G σ g o = .inr (7, fs)) (hl0 : 3 < fs.length) (hset : zshp G g o (upd (σ.1 g o) 3 v) (σ.2.1 o) (σ.2.2 o) = .inr (7, fs.set 3 (.int v))) (d : decode cc pc = .ok (.putfield 21, 3)) (kk : zWV G p l e R s m args below meth c nL cells slots Q (pc + 3) lv st (zst σ g o 3 v)) : zWV G p l e R s m args below meth c nL cells slots Q pc lv (.int v :: .ref (zad G g o) :: st) σ :=
  z_put C zin_7 zy7 zn7 rfl 3 (by decide) zq340 rfl rfl rfl hlive he hl0 hset d kk
theorem gf_Village_36 {G : zLA} {p : Program} {l : Launch} {e : Env} {R : Room} {s : State} {m : MethodId} {args : Array Value} {below : List Frame} {meth : Method} {c : Code} {cells slots : Nat} {Q : State → Prop} {cc : ByteArray} {nL : Nat} {ret : Option FieldType} {pc : Nat} {lv : List (Nat × Value)} {st : List Value} {σ : zSt} (C : zCx G p s m args meth c "VillageWaves$Village" cc nL ret) {g o : Nat} {fs : List Value} {v : Value} (hlive : (g, o) ∈ zL G) (he : zct G σ g o = .inr (7, fs)) (hv : fs[5]? = some v) (d : decode cc pc = .ok (.getfield 36, 3)) (kk : zWV G p l e R s m args below meth c nL cells slots Q (pc + 3) lv (v :: st) σ) : zWV G p l e R s m args below meth c nL cells slots Q pc lv (.ref (zad G g o) :: st) σ :=
  z_get C zin_7 rfl 5 (by decide) zq345 rfl hlive he hv d kk
theorem kl_Village_88 : zLV "VillageWaves$Village" 88 "VillageWaves$Homes" y_Homes_clear b_Homes_clear 1 none 0 := ⟨zq309, zq310, zq311, zq98, zq312, rfl, ⟨by decide, by decide, by decide +kernel⟩⟩
theorem gf_Village_43 {G : zLA} {p : Program} {l : Launch} {e : Env} {R : Room} {s : State} {m : MethodId} {args : Array Value} {below : List Frame} {meth : Method} {c : Code} {cells slots : Nat} {Q : State → Prop} {cc : ByteArray} {nL : Nat} {ret : Option FieldType} {pc : Nat} {lv : List (Nat × Value)} {st : List Value} {σ : zSt} (C : zCx G p s m args meth c "VillageWaves$Village" cc nL ret) {g o : Nat} {fs : List Value} {v : Value} (hlive : (g, o) ∈ zL G) (he : zct G σ g o = .inr (7, fs)) (hv : fs[6]? = some v) (d : decode cc pc = .ok (.getfield 43, 3)) (kk : zWV G p l e R s m args below meth c nL cells slots Q (pc + 3) lv (v :: st) σ) : zWV G p l e R s m args below meth c nL cells slots Q pc lv (.ref (zad G g o) :: st) σ :=
  z_get C zin_7 rfl 6 (by decide) zq348 rfl hlive he hv d kk
theorem kl_Village_89 : zLV "VillageWaves$Village" 89 "VillageWaves$Tidings" y_Tidings_clear b_Tidings_clear 1 none 0 := ⟨zq313, zq314, zq315, zq99, zq316, rfl, ⟨by decide, by decide, by decide +kernel⟩⟩
theorem gf_Village_50 {G : zLA} {p : Program} {l : Launch} {e : Env} {R : Room} {s : State} {m : MethodId} {args : Array Value} {below : List Frame} {meth : Method} {c : Code} {cells slots : Nat} {Q : State → Prop} {cc : ByteArray} {nL : Nat} {ret : Option FieldType} {pc : Nat} {lv : List (Nat × Value)} {st : List Value} {σ : zSt} (C : zCx G p s m args meth c "VillageWaves$Village" cc nL ret) {g o : Nat} {fs : List Value} {v : Value} (hlive : (g, o) ∈ zL G) (he : zct G σ g o = .inr (7, fs)) (hv : fs[7]? = some v) (d : decode cc pc = .ok (.getfield 50, 3)) (kk : zWV G p l e R s m args below meth c nL cells slots Q (pc + 3) lv (v :: st) σ) : zWV G p l e R s m args below meth c nL cells slots Q pc lv (.ref (zad G g o) :: st) σ :=
  z_get C zin_7 rfl 7 (by decide) zq351 rfl hlive he hv d kk
theorem kl_Village_90 : zLV "VillageWaves$Village" 90 "VillageWaves$Entries" y_Entries_clear b_Entries_clear 1 none 0 := ⟨zq317, zq318, zq319, zq100, zq320, rfl, ⟨by decide, by decide, by decide +kernel⟩⟩
theorem gf_Village_54 {G : zLA} {p : Program} {l : Launch} {e : Env} {R : Room} {s : State} {m : MethodId} {args : Array Value} {below : List Frame} {meth : Method} {c : Code} {cells slots : Nat} {Q : State → Prop} {cc : ByteArray} {nL : Nat} {ret : Option FieldType} {pc : Nat} {lv : List (Nat × Value)} {st : List Value} {σ : zSt} (C : zCx G p s m args meth c "VillageWaves$Village" cc nL ret) {g o : Nat} {fs : List Value} {v : Value} (hlive : (g, o) ∈ zL G) (he : zct G σ g o = .inr (7, fs)) (hv : fs[8]? = some v) (d : decode cc pc = .ok (.getfield 54, 3)) (kk : zWV G p l e R s m args below meth c nL cells slots Q (pc + 3) lv (v :: st) σ) : zWV G p l e R s m args below meth c nL cells slots Q pc lv (.ref (zad G g o) :: st) σ :=
  z_get C zin_7 rfl 8 (by decide) zq353 rfl hlive he hv d kk
theorem gf_Village_69 {G : zLA} {p : Program} {l : Launch} {e : Env} {R : Room} {s : State} {m : MethodId} {args : Array Value} {below : List Frame} {meth : Method} {c : Code} {cells slots : Nat} {Q : State → Prop} {cc : ByteArray} {nL : Nat} {ret : Option FieldType} {pc : Nat} {lv : List (Nat × Value)} {st : List Value} {σ : zSt} (C : zCx G p s m args meth c "VillageWaves$Village" cc nL ret) {g o : Nat} {fs : List Value} {v : Value} (hlive : (g, o) ∈ zL G) (he : zct G σ g o = .inr (7, fs)) (hv : fs[12]? = some v) (d : decode cc pc = .ok (.getfield 69, 3)) (kk : zWV G p l e R s m args below meth c nL cells slots Q (pc + 3) lv (v :: st) σ) : zWV G p l e R s m args below meth c nL cells slots Q pc lv (.ref (zad G g o) :: st) σ :=
  z_get C zin_7 rfl 12 (by decide) zq360 rfl hlive he hv d kk
theorem kl_Village_91 : zLV "VillageWaves$Village" 91 "VillageWaves$Journal" y_Journal_clear b_Journal_clear 1 none 0 := ⟨zq328, zq329, zq330, zq101, zq331, rfl, ⟨by decide, by decide, by decide +kernel⟩⟩
theorem gf_Village_29 {G : zLA} {p : Program} {l : Launch} {e : Env} {R : Room} {s : State} {m : MethodId} {args : Array Value} {below : List Frame} {meth : Method} {c : Code} {cells slots : Nat} {Q : State → Prop} {cc : ByteArray} {nL : Nat} {ret : Option FieldType} {pc : Nat} {lv : List (Nat × Value)} {st : List Value} {σ : zSt} (C : zCx G p s m args meth c "VillageWaves$Village" cc nL ret) {g o : Nat} {fs : List Value} {v : Value} (hlive : (g, o) ∈ zL G) (he : zct G σ g o = .inr (7, fs)) (hv : fs[4]? = some v) (d : decode cc pc = .ok (.getfield 29, 3)) (kk : zWV G p l e R s m args below meth c nL cells slots Q (pc + 3) lv (v :: st) σ) : zWV G p l e R s m args below meth c nL cells slots Q pc lv (.ref (zad G g o) :: st) σ :=
  z_get C zin_7 rfl 4 (by decide) zq342 rfl hlive he hv d kk
theorem kl_Village_80 : zLSN "VillageWaves$Village" 80 y_Waves_element "VillageWaves" b_Waves_element 2 (some .int) 2 := ⟨zp302, zq303, zq94, zq304, ⟨by decide, by decide, by decide +kernel⟩⟩
theorem kl_Village_84 : zLV "VillageWaves$Village" 84 "VillageWaves$Row" y_Row_put b_Row_put 3 none 2 := ⟨zq305, zq306, zq307, zq96, zq308, rfl, ⟨by decide, by decide, by decide +kernel⟩⟩
theorem gf_Village_9 {G : zLA} {p : Program} {l : Launch} {e : Env} {R : Room} {s : State} {m : MethodId} {args : Array Value} {below : List Frame} {meth : Method} {c : Code} {cells slots : Nat} {Q : State → Prop} {cc : ByteArray} {nL : Nat} {ret : Option FieldType} {pc : Nat} {lv : List (Nat × Value)} {st : List Value} {σ : zSt} (C : zCx G p s m args meth c "VillageWaves$Village" cc nL ret) {g o : Nat} {fs : List Value} {v : Value} (hlive : (g, o) ∈ zL G) (he : zct G σ g o = .inr (7, fs)) (hv : fs[0]? = some v) (d : decode cc pc = .ok (.getfield 9, 3)) (kk : zWV G p l e R s m args below meth c nL cells slots Q (pc + 3) lv (v :: st) σ) : zWV G p l e R s m args below meth c nL cells slots Q pc lv (.ref (zad G g o) :: st) σ :=
  z_get C zin_7 rfl 0 (by decide) zq332 rfl hlive he hv d kk
theorem gf_Village_15 {G : zLA} {p : Program} {l : Launch} {e : Env} {R : Room} {s : State} {m : MethodId} {args : Array Value} {below : List Frame} {meth : Method} {c : Code} {cells slots : Nat} {Q : State → Prop} {cc : ByteArray} {nL : Nat} {ret : Option FieldType} {pc : Nat} {lv : List (Nat × Value)} {st : List Value} {σ : zSt} (C : zCx G p s m args meth c "VillageWaves$Village" cc nL ret) {g o : Nat} {fs : List Value} {v : Value} (hlive : (g, o) ∈ zL G) (he : zct G σ g o = .inr (7, fs)) (hv : fs[1]? = some v) (d : decode cc pc = .ok (.getfield 15, 3)) (kk : zWV G p l e R s m args below meth c nL cells slots Q (pc + 3) lv (v :: st) σ) : zWV G p l e R s m args below meth c nL cells slots Q pc lv (.ref (zad G g o) :: st) σ :=
  z_get C zin_7 rfl 1 (by decide) zq335 rfl hlive he hv d kk
theorem gf_Village_18 {G : zLA} {p : Program} {l : Launch} {e : Env} {R : Room} {s : State} {m : MethodId} {args : Array Value} {below : List Frame} {meth : Method} {c : Code} {cells slots : Nat} {Q : State → Prop} {cc : ByteArray} {nL : Nat} {ret : Option FieldType} {pc : Nat} {lv : List (Nat × Value)} {st : List Value} {σ : zSt} (C : zCx G p s m args meth c "VillageWaves$Village" cc nL ret) {g o : Nat} {fs : List Value} {v : Value} (hlive : (g, o) ∈ zL G) (he : zct G σ g o = .inr (7, fs)) (hv : fs[2]? = some v) (d : decode cc pc = .ok (.getfield 18, 3)) (kk : zWV G p l e R s m args below meth c nL cells slots Q (pc + 3) lv (v :: st) σ) : zWV G p l e R s m args below meth c nL cells slots Q pc lv (.ref (zad G g o) :: st) σ :=
  z_get C zin_7 rfl 2 (by decide) zq337 rfl hlive he hv d kk
theorem gf_Village_21 {G : zLA} {p : Program} {l : Launch} {e : Env} {R : Room} {s : State} {m : MethodId} {args : Array Value} {below : List Frame} {meth : Method} {c : Code} {cells slots : Nat} {Q : State → Prop} {cc : ByteArray} {nL : Nat} {ret : Option FieldType} {pc : Nat} {lv : List (Nat × Value)} {st : List Value} {σ : zSt} (C : zCx G p s m args meth c "VillageWaves$Village" cc nL ret) {g o : Nat} {fs : List Value} {v : Value} (hlive : (g, o) ∈ zL G) (he : zct G σ g o = .inr (7, fs)) (hv : fs[3]? = some v) (d : decode cc pc = .ok (.getfield 21, 3)) (kk : zWV G p l e R s m args below meth c nL cells slots Q (pc + 3) lv (v :: st) σ) : zWV G p l e R s m args below meth c nL cells slots Q pc lv (.ref (zad G g o) :: st) σ :=
  z_get C zin_7 rfl 3 (by decide) zq340 rfl hlive he hv d kk
theorem kl_Village_92 : zLV "VillageWaves$Village" 92 "VillageWaves$Row" y_Row_copyFrom b_Row_copyFrom 2 none 1 := ⟨zq642, zq643, zq644, zq96, zq645, rfl, ⟨by decide, by decide, by decide +kernel⟩⟩
theorem kl_Village_96 : zLV "VillageWaves$Village" 96 "VillageWaves$Homes" y_Homes_copyFrom b_Homes_copyFrom 2 none 1 := ⟨zq650, zq651, zq652, zq98, zq653, rfl, ⟨by decide, by decide, by decide +kernel⟩⟩
theorem kl_Village_99 : zLV "VillageWaves$Village" 99 "VillageWaves$Tidings" y_Tidings_copyFrom b_Tidings_copyFrom 2 none 1 := ⟨zq655, zq656, zq657, zq99, zq658, rfl, ⟨by decide, by decide, by decide +kernel⟩⟩
theorem kl_Village_102 : zLV "VillageWaves$Village" 102 "VillageWaves$Entries" y_Entries_copyFrom b_Entries_copyFrom 2 none 1 := ⟨zq660, zq661, zq662, zq100, zq663, rfl, ⟨by decide, by decide, by decide +kernel⟩⟩
theorem gf_Village_57 {G : zLA} {p : Program} {l : Launch} {e : Env} {R : Room} {s : State} {m : MethodId} {args : Array Value} {below : List Frame} {meth : Method} {c : Code} {cells slots : Nat} {Q : State → Prop} {cc : ByteArray} {nL : Nat} {ret : Option FieldType} {pc : Nat} {lv : List (Nat × Value)} {st : List Value} {σ : zSt} (C : zCx G p s m args meth c "VillageWaves$Village" cc nL ret) {g o : Nat} {fs : List Value} {v : Value} (hlive : (g, o) ∈ zL G) (he : zct G σ g o = .inr (7, fs)) (hv : fs[9]? = some v) (d : decode cc pc = .ok (.getfield 57, 3)) (kk : zWV G p l e R s m args below meth c nL cells slots Q (pc + 3) lv (v :: st) σ) : zWV G p l e R s m args below meth c nL cells slots Q pc lv (.ref (zad G g o) :: st) σ :=
  z_get C zin_7 rfl 9 (by decide) zq355 rfl hlive he hv d kk
theorem gf_Village_60 {G : zLA} {p : Program} {l : Launch} {e : Env} {R : Room} {s : State} {m : MethodId} {args : Array Value} {below : List Frame} {meth : Method} {c : Code} {cells slots : Nat} {Q : State → Prop} {cc : ByteArray} {nL : Nat} {ret : Option FieldType} {pc : Nat} {lv : List (Nat × Value)} {st : List Value} {σ : zSt} (C : zCx G p s m args meth c "VillageWaves$Village" cc nL ret) {g o : Nat} {fs : List Value} {v : Value} (hlive : (g, o) ∈ zL G) (he : zct G σ g o = .inr (7, fs)) (hv : fs[10]? = some v) (d : decode cc pc = .ok (.getfield 60, 3)) (kk : zWV G p l e R s m args below meth c nL cells slots Q (pc + 3) lv (v :: st) σ) : zWV G p l e R s m args below meth c nL cells slots Q pc lv (.ref (zad G g o) :: st) σ :=
  z_get C zin_7 rfl 10 (by decide) zq357 rfl hlive he hv d kk
theorem gf_Village_63 {G : zLA} {p : Program} {l : Launch} {e : Env} {R : Room} {s : State} {m : MethodId} {args : Array Value} {below : List Frame} {meth : Method} {c : Code} {cells slots : Nat} {Q : State → Prop} {cc : ByteArray} {nL : Nat} {ret : Option FieldType} {pc : Nat} {lv : List (Nat × Value)} {st : List Value} {σ : zSt} (C : zCx G p s m args meth c "VillageWaves$Village" cc nL ret) {g o : Nat} {fs : List Value} {v : Value} (hlive : (g, o) ∈ zL G) (he : zct G σ g o = .inr (7, fs)) (hv : fs[11]? = some v) (d : decode cc pc = .ok (.getfield 63, 3)) (kk : zWV G p l e R s m args below meth c nL cells slots Q (pc + 3) lv (v :: st) σ) : zWV G p l e R s m args below meth c nL cells slots Q pc lv (.ref (zad G g o) :: st) σ :=
  z_get C zin_7 rfl 11 (by decide) zq359 rfl hlive he hv d kk
theorem kl_Village_105 : zLV "VillageWaves$Village" 105 "VillageWaves$Journal" y_Journal_copyFrom b_Journal_copyFrom 2 none 1 := ⟨zq665, zq666, zq667, zq101, zq668, rfl, ⟨by decide, by decide, by decide +kernel⟩⟩
theorem kl_Village_108 : zLV "VillageWaves$Village" 108 "VillageWaves$Tidings" y_Tidings_add b_Tidings_add 5 (some .int) 3 := ⟨zq620, zq621, zq622, zq99, zq623, rfl, ⟨by decide, by decide, by decide +kernel⟩⟩
theorem kl_Village_116 : zLV "VillageWaves$Village" 116 "VillageWaves$Entries" y_Entries_put b_Entries_put 4 none 3 := ⟨zq631, zq632, zq633, zq100, zq634, rfl, ⟨by decide, by decide, by decide +kernel⟩⟩
theorem kl_Village_112 : zLSN "VillageWaves$Village" 112 y_Waves_cell "VillageWaves" b_Waves_cell 2 (some .int) 2 := ⟨zp628, zq629, zq94, zq630, ⟨by decide, by decide, by decide +kernel⟩⟩
theorem gf_Village_131 {G : zLA} {p : Program} {l : Launch} {e : Env} {R : Room} {s : State} {m : MethodId} {args : Array Value} {below : List Frame} {meth : Method} {c : Code} {cells slots : Nat} {Q : State → Prop} {cc : ByteArray} {nL : Nat} {ret : Option FieldType} {pc : Nat} {lv : List (Nat × Value)} {st : List Value} {σ : zSt} (C : zCx G p s m args meth c "VillageWaves$Village" cc nL ret) {g o : Nat} {fs : List Value} {v : Value} (hlive : (g, o) ∈ zL G) (he : zct G σ g o = .inr (6, fs)) (hv : fs[8]? = some v) (d : decode cc pc = .ok (.getfield 131, 3)) (kk : zWV G p l e R s m args below meth c nL cells slots Q (pc + 3) lv (v :: st) σ) : zWV G p l e R s m args below meth c nL cells slots Q pc lv (.ref (zad G g o) :: st) σ :=
  z_getN C zin_6 rfl 8 (by decide) zp238 rfl hlive he hv d kk
theorem kl_Village_134 : zLV "VillageWaves$Village" 134 "VillageWaves$Row" y_Row_get b_Row_get 2 (some .int) 1 := ⟨zq695, zq476, zq477, zq96, zq478, rfl, ⟨by decide, by decide, by decide +kernel⟩⟩
theorem kl_Village_138 : zLSN "VillageWaves$Village" 138 y_Waves_contains "VillageWaves" b_Waves_contains 2 (some .boolean) 2 := ⟨zp714, zq715, zq94, zq716, ⟨by decide, by decide, by decide +kernel⟩⟩
theorem kl_Village_230 : zLV "VillageWaves$Village" 230 "VillageWaves$Entries" y_Entries_remove b_Entries_remove 3 none 2 := ⟨zq1095, zq1096, zq1097, zq100, zq1098, rfl, ⟨by decide, by decide, by decide +kernel⟩⟩
theorem kl_Village_239 : zLV "VillageWaves$Village" 239 "VillageWaves$Row" y_Row_join b_Row_join 3 none 2 := ⟨zq1103, zq590, zq591, zq96, zq592, rfl, ⟨by decide, by decide, by decide +kernel⟩⟩
theorem kl_Village_151 : zLV "VillageWaves$Village" 151 "VillageWaves$Village" y_Village_owedBy b_Village_owedBy 4 (some .int) 2 := ⟨zq717, zq718, zq719, zq95, zq720, rfl, ⟨by decide, by decide, by decide +kernel⟩⟩
theorem gf_Village_119 {G : zLA} {p : Program} {l : Launch} {e : Env} {R : Room} {s : State} {m : MethodId} {args : Array Value} {below : List Frame} {meth : Method} {c : Code} {cells slots : Nat} {Q : State → Prop} {cc : ByteArray} {nL : Nat} {ret : Option FieldType} {pc : Nat} {lv : List (Nat × Value)} {st : List Value} {σ : zSt} (C : zCx G p s m args meth c "VillageWaves$Village" cc nL ret) {g o : Nat} {fs : List Value} {v : Value} (hlive : (g, o) ∈ zL G) (he : zct G σ g o = .inr (6, fs)) (hv : fs[4]? = some v) (d : decode cc pc = .ok (.getfield 119, 3)) (kk : zWV G p l e R s m args below meth c nL cells slots Q (pc + 3) lv (v :: st) σ) : zWV G p l e R s m args below meth c nL cells slots Q pc lv (.ref (zad G g o) :: st) σ :=
  z_getN C zin_6 rfl 4 (by decide) zp226 rfl hlive he hv d kk
theorem gf_Village_122 {G : zLA} {p : Program} {l : Launch} {e : Env} {R : Room} {s : State} {m : MethodId} {args : Array Value} {below : List Frame} {meth : Method} {c : Code} {cells slots : Nat} {Q : State → Prop} {cc : ByteArray} {nL : Nat} {ret : Option FieldType} {pc : Nat} {lv : List (Nat × Value)} {st : List Value} {σ : zSt} (C : zCx G p s m args meth c "VillageWaves$Village" cc nL ret) {g o : Nat} {fs : List Value} {v : Value} (hlive : (g, o) ∈ zL G) (he : zct G σ g o = .inr (6, fs)) (hv : fs[5]? = some v) (d : decode cc pc = .ok (.getfield 122, 3)) (kk : zWV G p l e R s m args below meth c nL cells slots Q (pc + 3) lv (v :: st) σ) : zWV G p l e R s m args below meth c nL cells slots Q pc lv (.ref (zad G g o) :: st) σ :=
  z_getN C zin_6 rfl 5 (by decide) zp229 rfl hlive he hv d kk
theorem gf_Village_125 {G : zLA} {p : Program} {l : Launch} {e : Env} {R : Room} {s : State} {m : MethodId} {args : Array Value} {below : List Frame} {meth : Method} {c : Code} {cells slots : Nat} {Q : State → Prop} {cc : ByteArray} {nL : Nat} {ret : Option FieldType} {pc : Nat} {lv : List (Nat × Value)} {st : List Value} {σ : zSt} (C : zCx G p s m args meth c "VillageWaves$Village" cc nL ret) {g o : Nat} {fs : List Value} {v : Value} (hlive : (g, o) ∈ zL G) (he : zct G σ g o = .inr (6, fs)) (hv : fs[6]? = some v) (d : decode cc pc = .ok (.getfield 125, 3)) (kk : zWV G p l e R s m args below meth c nL cells slots Q (pc + 3) lv (v :: st) σ) : zWV G p l e R s m args below meth c nL cells slots Q pc lv (.ref (zad G g o) :: st) σ :=
  z_getN C zin_6 rfl 6 (by decide) zp232 rfl hlive he hv d kk
theorem kl_Village_128 : zLV "VillageWaves$Village" 128 "VillageWaves$Village" y_Village_learnCorrection b_Village_learnCorrection 3 none 2 := ⟨zq1091, zq1093, zq18, zq95, zq1094, rfl, ⟨by decide, by decide, by decide +kernel⟩⟩
theorem gf_Village_142 {G : zLA} {p : Program} {l : Launch} {e : Env} {R : Room} {s : State} {m : MethodId} {args : Array Value} {below : List Frame} {meth : Method} {c : Code} {cells slots : Nat} {Q : State → Prop} {cc : ByteArray} {nL : Nat} {ret : Option FieldType} {pc : Nat} {lv : List (Nat × Value)} {st : List Value} {σ : zSt} (C : zCx G p s m args meth c "VillageWaves$Village" cc nL ret) {g o : Nat} {fs : List Value} {v : Value} (hlive : (g, o) ∈ zL G) (he : zct G σ g o = .inr (0, fs)) (hv : fs[0]? = some v) (d : decode cc pc = .ok (.getfield 142, 3)) (kk : zWV G p l e R s m args below meth c nL cells slots Q (pc + 3) lv (v :: st) σ) : zWV G p l e R s m args below meth c nL cells slots Q pc lv (.ref (zad G g o) :: st) σ :=
  z_getN C zin_0 rfl 0 (by decide) zp273 rfl hlive he hv d kk
theorem gf_Village_145 {G : zLA} {p : Program} {l : Launch} {e : Env} {R : Room} {s : State} {m : MethodId} {args : Array Value} {below : List Frame} {meth : Method} {c : Code} {cells slots : Nat} {Q : State → Prop} {cc : ByteArray} {nL : Nat} {ret : Option FieldType} {pc : Nat} {lv : List (Nat × Value)} {st : List Value} {σ : zSt} (C : zCx G p s m args meth c "VillageWaves$Village" cc nL ret) {g o : Nat} {fs : List Value} {v : Value} (hlive : (g, o) ∈ zL G) (he : zct G σ g o = .inr (1, fs)) (hv : fs[10]? = some v) (d : decode cc pc = .ok (.getfield 145, 3)) (kk : zWV G p l e R s m args below meth c nL cells slots Q (pc + 3) lv (v :: st) σ) : zWV G p l e R s m args below meth c nL cells slots Q pc lv (.ref (zad G g o) :: st) σ :=
  z_getN C zin_1 rfl 10 (by decide) zp183 rfl hlive he hv d kk
theorem gf_Village_148 {G : zLA} {p : Program} {l : Launch} {e : Env} {R : Room} {s : State} {m : MethodId} {args : Array Value} {below : List Frame} {meth : Method} {c : Code} {cells slots : Nat} {Q : State → Prop} {cc : ByteArray} {nL : Nat} {ret : Option FieldType} {pc : Nat} {lv : List (Nat × Value)} {st : List Value} {σ : zSt} (C : zCx G p s m args meth c "VillageWaves$Village" cc nL ret) {g o : Nat} {fs : List Value} {v : Value} (hlive : (g, o) ∈ zL G) (he : zct G σ g o = .inr (6, fs)) (hv : fs[0]? = some v) (d : decode cc pc = .ok (.getfield 148, 3)) (kk : zWV G p l e R s m args below meth c nL cells slots Q (pc + 3) lv (v :: st) σ) : zWV G p l e R s m args below meth c nL cells slots Q pc lv (.ref (zad G g o) :: st) σ :=
  z_getN C zin_6 rfl 0 (by decide) zp217 rfl hlive he hv d kk
theorem kl_Village_154 : zLSN "VillageWaves$Village" 154 y_Waves_bit "VillageWaves" b_Waves_bit 1 (some .int) 1 := ⟨zp721, zq626, zq94, zq627, ⟨by decide, by decide, by decide +kernel⟩⟩
theorem kl_Village_185 : zLV "VillageWaves$Village" 185 "VillageWaves$Village" y_Village_minuteOfDay b_Village_minuteOfDay 1 (some .int) 0 := ⟨zq691, zq692, zq693, zq95, zq694, rfl, ⟨by decide, by decide, by decide +kernel⟩⟩
theorem kl_Village_188 : zLV "VillageWaves$Village" 188 "VillageWaves$Homes" y_Homes_beginDay b_Homes_beginDay 3 none 1 := ⟨zq696, zq697, zq698, zq98, zq699, rfl, ⟨by decide, by decide, by decide +kernel⟩⟩
theorem gf_Village_194 {G : zLA} {p : Program} {l : Launch} {e : Env} {R : Room} {s : State} {m : MethodId} {args : Array Value} {below : List Frame} {meth : Method} {c : Code} {cells slots : Nat} {Q : State → Prop} {cc : ByteArray} {nL : Nat} {ret : Option FieldType} {pc : Nat} {lv : List (Nat × Value)} {st : List Value} {σ : zSt} (C : zCx G p s m args meth c "VillageWaves$Village" cc nL ret) {g o : Nat} {fs : List Value} {v : Value} (hlive : (g, o) ∈ zL G) (he : zct G σ g o = .inr (1, fs)) (hv : fs[4]? = some v) (d : decode cc pc = .ok (.getfield 194, 3)) (kk : zWV G p l e R s m args below meth c nL cells slots Q (pc + 3) lv (v :: st) σ) : zWV G p l e R s m args below meth c nL cells slots Q pc lv (.ref (zad G g o) :: st) σ :=
  z_getN C zin_1 rfl 4 (by decide) zp166 rfl hlive he hv d kk
theorem gf_Village_197 {G : zLA} {p : Program} {l : Launch} {e : Env} {R : Room} {s : State} {m : MethodId} {args : Array Value} {below : List Frame} {meth : Method} {c : Code} {cells slots : Nat} {Q : State → Prop} {cc : ByteArray} {nL : Nat} {ret : Option FieldType} {pc : Nat} {lv : List (Nat × Value)} {st : List Value} {σ : zSt} (C : zCx G p s m args meth c "VillageWaves$Village" cc nL ret) {g o : Nat} {fs : List Value} {v : Value} (hlive : (g, o) ∈ zL G) (he : zct G σ g o = .inr (1, fs)) (hv : fs[8]? = some v) (d : decode cc pc = .ok (.getfield 197, 3)) (kk : zWV G p l e R s m args below meth c nL cells slots Q (pc + 3) lv (v :: st) σ) : zWV G p l e R s m args below meth c nL cells slots Q pc lv (.ref (zad G g o) :: st) σ :=
  z_getN C zin_1 rfl 8 (by decide) zp177 rfl hlive he hv d kk
theorem kl_Village_200 : zLV "VillageWaves$Village" 200 "VillageWaves$Homes" y_Homes_isQuiet b_Homes_isQuiet 5 (some .boolean) 2 := ⟨zq726, zq727, zq728, zq98, zq729, rfl, ⟨by decide, by decide, by decide +kernel⟩⟩
theorem gf_Village_190 {G : zLA} {p : Program} {l : Launch} {e : Env} {R : Room} {s : State} {m : MethodId} {args : Array Value} {below : List Frame} {meth : Method} {c : Code} {cells slots : Nat} {Q : State → Prop} {cc : ByteArray} {nL : Nat} {ret : Option FieldType} {pc : Nat} {lv : List (Nat × Value)} {st : List Value} {σ : zSt} (C : zCx G p s m args meth c "VillageWaves$Village" cc nL ret) {g o : Nat} {fs : List Value} {v : Value} (hlive : (g, o) ∈ zL G) (he : zct G σ g o = .inr (1, fs)) (hv : fs[0]? = some v) (d : decode cc pc = .ok (.getfield 190, 3)) (kk : zWV G p l e R s m args below meth c nL cells slots Q (pc + 3) lv (v :: st) σ) : zWV G p l e R s m args below meth c nL cells slots Q pc lv (.ref (zad G g o) :: st) σ :=
  z_getN C zin_1 rfl 0 (by decide) zp157 rfl hlive he hv d kk
theorem kl_Village_170 : zLV "VillageWaves$Village" 170 "VillageWaves$Village" y_Village_sendableCorrections b_Village_sendableCorrections 6 (some .int) 1 := ⟨zq710, zq711, zq712, zq95, zq713, rfl, ⟨by decide, by decide, by decide +kernel⟩⟩
theorem kl_Village_191 : zLV "VillageWaves$Village" 191 "VillageWaves$Village" y_Village_maySpeak b_Village_maySpeak 3 (some .boolean) 2 := ⟨zq722, zq724, zq11, zq95, zq725, rfl, ⟨by decide, by decide, by decide +kernel⟩⟩
theorem kl_Village_203 : zLV "VillageWaves$Village" 203 "VillageWaves$Homes" y_Homes_sharesOf b_Homes_sharesOf 4 (some .int) 1 := ⟨zq738, zq739, zq740, zq98, zq741, rfl, ⟨by decide, by decide, by decide +kernel⟩⟩
theorem kl_Village_206 : zLV "VillageWaves$Village" 206 "VillageWaves$Village" y_Village_draw b_Village_draw 2 (some .int) 1 := ⟨zq743, zq745, zq12, zq95, zq746, rfl, ⟨by decide, by decide, by decide +kernel⟩⟩
theorem gf_Village_209 {G : zLA} {p : Program} {l : Launch} {e : Env} {R : Room} {s : State} {m : MethodId} {args : Array Value} {below : List Frame} {meth : Method} {c : Code} {cells slots : Nat} {Q : State → Prop} {cc : ByteArray} {nL : Nat} {ret : Option FieldType} {pc : Nat} {lv : List (Nat × Value)} {st : List Value} {σ : zSt} (C : zCx G p s m args meth c "VillageWaves$Village" cc nL ret) {g o : Nat} {fs : List Value} {v : Value} (hlive : (g, o) ∈ zL G) (he : zct G σ g o = .inr (1, fs)) (hv : fs[5]? = some v) (d : decode cc pc = .ok (.getfield 209, 3)) (kk : zWV G p l e R s m args below meth c nL cells slots Q (pc + 3) lv (v :: st) σ) : zWV G p l e R s m args below meth c nL cells slots Q pc lv (.ref (zad G g o) :: st) σ :=
  z_getN C zin_1 rfl 5 (by decide) zp169 rfl hlive he hv d kk
theorem kl_Village_213 : zLV "VillageWaves$Village" 213 "VillageWaves$Row" y_Row_add b_Row_add 3 none 2 := ⟨zq1127, zq1128, zq1129, zq96, zq1130, rfl, ⟨by decide, by decide, by decide +kernel⟩⟩
theorem gf_Village_215 {G : zLA} {p : Program} {l : Launch} {e : Env} {R : Room} {s : State} {m : MethodId} {args : Array Value} {below : List Frame} {meth : Method} {c : Code} {cells slots : Nat} {Q : State → Prop} {cc : ByteArray} {nL : Nat} {ret : Option FieldType} {pc : Nat} {lv : List (Nat × Value)} {st : List Value} {σ : zSt} (C : zCx G p s m args meth c "VillageWaves$Village" cc nL ret) {g o : Nat} {fs : List Value} {v : Value} (hlive : (g, o) ∈ zL G) (he : zct G σ g o = .inr (1, fs)) (hv : fs[9]? = some v) (d : decode cc pc = .ok (.getfield 215, 3)) (kk : zWV G p l e R s m args below meth c nL cells slots Q (pc + 3) lv (v :: st) σ) : zWV G p l e R s m args below meth c nL cells slots Q pc lv (.ref (zad G g o) :: st) σ :=
  z_getN C zin_1 rfl 9 (by decide) zp181 rfl hlive he hv d kk
theorem kl_Village_218 : zLS "VillageWaves$Village" 218 y_Integer_bitCount b_Integer_bitCount 1 (some .int) 1 := ⟨zq1131, zq964, zq117, zq965, ⟨by decide, by decide, by decide +kernel⟩⟩
theorem kl_Village_250 : zLV "VillageWaves$Village" 250 "VillageWaves$Village" y_Village_dropSettledEntries b_Village_dropSettledEntries 3 none 1 := ⟨zq1137, zq1139, zq21, zq95, zq1140, rfl, ⟨by decide, by decide, by decide +kernel⟩⟩
theorem kl_Village_233 : zLV "VillageWaves$Village" 233 "VillageWaves$Journal" y_Journal_add b_Journal_add 8 none 6 := ⟨zq1141, zq1142, zq1143, zq101, zq1144, rfl, ⟨by decide, by decide, by decide +kernel⟩⟩
theorem gf_Village_236 {G : zLA} {p : Program} {l : Launch} {e : Env} {R : Room} {s : State} {m : MethodId} {args : Array Value} {below : List Frame} {meth : Method} {c : Code} {cells slots : Nat} {Q : State → Prop} {cc : ByteArray} {nL : Nat} {ret : Option FieldType} {pc : Nat} {lv : List (Nat × Value)} {st : List Value} {σ : zSt} (C : zCx G p s m args meth c "VillageWaves$Village" cc nL ret) {g o : Nat} {fs : List Value} {v : Value} (hlive : (g, o) ∈ zL G) (he : zct G σ g o = .inr (6, fs)) (hv : fs[7]? = some v) (d : decode cc pc = .ok (.getfield 236, 3)) (kk : zWV G p l e R s m args below meth c nL cells slots Q (pc + 3) lv (v :: st) σ) : zWV G p l e R s m args below meth c nL cells slots Q pc lv (.ref (zad G g o) :: st) σ :=
  z_getN C zin_6 rfl 7 (by decide) zp236 rfl hlive he hv d kk
theorem gf_Village_242 {G : zLA} {p : Program} {l : Launch} {e : Env} {R : Room} {s : State} {m : MethodId} {args : Array Value} {below : List Frame} {meth : Method} {c : Code} {cells slots : Nat} {Q : State → Prop} {cc : ByteArray} {nL : Nat} {ret : Option FieldType} {pc : Nat} {lv : List (Nat × Value)} {st : List Value} {σ : zSt} (C : zCx G p s m args meth c "VillageWaves$Village" cc nL ret) {g o : Nat} {fs : List Value} {v : Value} (hlive : (g, o) ∈ zL G) (he : zct G σ g o = .inr (6, fs)) (hv : fs[9]? = some v) (d : decode cc pc = .ok (.getfield 242, 3)) (kk : zWV G p l e R s m args below meth c nL cells slots Q (pc + 3) lv (v :: st) σ) : zWV G p l e R s m args below meth c nL cells slots Q pc lv (.ref (zad G g o) :: st) σ :=
  z_getN C zin_6 rfl 9 (by decide) zp242 rfl hlive he hv d kk
theorem kl_Village_223 : zLV "VillageWaves$Village" 223 "VillageWaves$Tidings" y_Tidings_isHeardOf b_Tidings_isHeardOf 3 (some .boolean) 2 := ⟨zq1150, zq1151, zq1152, zq99, zq1153, rfl, ⟨by decide, by decide, by decide +kernel⟩⟩
theorem kl_Village_226 : zLV "VillageWaves$Village" 226 "VillageWaves$Village" y_Village_getNews b_Village_getNews 5 none 4 := ⟨zq1154, zq1156, zq23, zq95, zq1157, rfl, ⟨by decide, by decide, by decide +kernel⟩⟩
theorem kl_Village_160 : zLV "VillageWaves$Village" 160 "VillageWaves$Village" y_Village_beginDay b_Village_beginDay 1 none 0 := ⟨zq1120, zq688, zq689, zq95, zq690, rfl, ⟨by decide, by decide, by decide +kernel⟩⟩
theorem kl_Village_163 : zLV "VillageWaves$Village" 163 "VillageWaves$Village" y_Village_wishing b_Village_wishing 5 (some .int) 0 := ⟨zq1121, zq707, zq708, zq95, zq709, rfl, ⟨by decide, by decide, by decide +kernel⟩⟩
theorem kl_Village_167 : zLV "VillageWaves$Village" 167 "VillageWaves$Village" y_Village_drawnOf b_Village_drawnOf 4 (some .int) 1 := ⟨zq1122, zq735, zq736, zq95, zq737, rfl, ⟨by decide, by decide, by decide +kernel⟩⟩
theorem kl_Village_173 : zLV "VillageWaves$Village" 173 "VillageWaves$Village" y_Village_spendOnAir b_Village_spendOnAir 6 (some .int) 1 := ⟨zq1123, zq1125, zq19, zq95, zq1126, rfl, ⟨by decide, by decide, by decide +kernel⟩⟩
theorem kl_Village_176 : zLV "VillageWaves$Village" 176 "VillageWaves$Entries" y_Entries_first b_Entries_first 6 (some .int) 2 := ⟨zq1132, zq1008, zq1009, zq100, zq1010, rfl, ⟨by decide, by decide, by decide +kernel⟩⟩
theorem kl_Village_182 : zLV "VillageWaves$Village" 182 "VillageWaves$Village" y_Village_sendNews b_Village_sendNews 7 none 3 := ⟨zq1146, zq1148, zq22, zq95, zq1149, rfl, ⟨by decide, by decide, by decide +kernel⟩⟩
theorem kl_Village_179 : zLV "VillageWaves$Village" 179 "VillageWaves$Village" y_Village_sendCorrection b_Village_sendCorrection 6 none 3 := ⟨zq1133, zq1135, zq20, zq95, zq1136, rfl, ⟨by decide, by decide, by decide +kernel⟩⟩
theorem kl_Village_157 : zLV "VillageWaves$Village" 157 "VillageWaves$Village" y_Village_minute b_Village_minute 6 none 0 := ⟨zq1116, zq1117, zq1118, zq95, zq1119, rfl, ⟨by decide, by decide, by decide +kernel⟩⟩
theorem gf_Text_14 {G : zLA} {p : Program} {l : Launch} {e : Env} {R : Room} {s : State} {m : MethodId} {args : Array Value} {below : List Frame} {meth : Method} {c : Code} {cells slots : Nat} {Q : State → Prop} {cc : ByteArray} {nL : Nat} {ret : Option FieldType} {pc : Nat} {lv : List (Nat × Value)} {st : List Value} {σ : zSt} (C : zCx G p s m args meth c "VillageWaves$Text" cc nL ret) {g o : Nat} {fs : List Value} {v : Value} (hlive : (g, o) ∈ zL G) (he : zct G σ g o = .inr (5, fs)) (hv : fs[0]? = some v) (d : decode cc pc = .ok (.getfield 14, 3)) (kk : zWV G p l e R s m args below meth c nL cells slots Q (pc + 3) lv (v :: st) σ) : zWV G p l e R s m args below meth c nL cells slots Q pc lv (.ref (zad G g o) :: st) σ :=
  z_get C zin_5 rfl 0 (by decide) zq403 rfl hlive he hv d kk
theorem gf_Text_20 {G : zLA} {p : Program} {l : Launch} {e : Env} {R : Room} {s : State} {m : MethodId} {args : Array Value} {below : List Frame} {meth : Method} {c : Code} {cells slots : Nat} {Q : State → Prop} {cc : ByteArray} {nL : Nat} {ret : Option FieldType} {pc : Nat} {lv : List (Nat × Value)} {st : List Value} {σ : zSt} (C : zCx G p s m args meth c "VillageWaves$Text" cc nL ret) {g o : Nat} {fs : List Value} {v : Value} (hlive : (g, o) ∈ zL G) (he : zct G σ g o = .inr (5, fs)) (hv : fs[1]? = some v) (d : decode cc pc = .ok (.getfield 20, 3)) (kk : zWV G p l e R s m args below meth c nL cells slots Q (pc + 3) lv (v :: st) σ) : zWV G p l e R s m args below meth c nL cells slots Q pc lv (.ref (zad G g o) :: st) σ :=
  z_get C zin_5 rfl 1 (by decide) zq404 rfl hlive he hv d kk
theorem kl_Text_36 : zLV "VillageWaves$Text" 36 "VillageWaves$Row" y_Row_put b_Row_put 3 none 2 := ⟨zq836, zq306, zq307, zq96, zq308, rfl, ⟨by decide, by decide, by decide +kernel⟩⟩
theorem pf_Text_20 {G : zLA} {p : Program} {l : Launch} {e : Env} {R : Room} {s : State} {m : MethodId} {args : Array Value} {below : List Frame} {meth : Method} {c : Code} {cells slots : Nat} {Q : State → Prop} {cc : ByteArray} {nL : Nat} {ret : Option FieldType} {pc : Nat} {lv : List (Nat × Value)} {st : List Value} {σ : zSt} (C : zCx G p s m args meth c "VillageWaves$Text" cc nL ret) {g o : Nat} {fs : List Value} {v : Int32} (hlive : (g, o) ∈ zL G) (he : zct G σ g o = .inr (5, fs)) (hl0 : 1 < fs.length) (hset : zshp G g o (upd (σ.1 g o) 1 v) (σ.2.1 o) (σ.2.2 o) = .inr (5, fs.set 1 (.int v))) (d : decode cc pc = .ok (.putfield 20, 3)) (kk : zWV G p l e R s m args below meth c nL cells slots Q (pc + 3) lv st (zst σ g o 1 v)) : zWV G p l e R s m args below meth c nL cells slots Q pc lv (.int v :: .ref (zad G g o) :: st) σ :=
  z_put C zin_5 zy5 zn5 rfl 1 (by decide) zq404 rfl rfl rfl hlive he hl0 hset d kk
theorem gf_Text_30 {G : zLA} {p : Program} {l : Launch} {e : Env} {R : Room} {s : State} {m : MethodId} {args : Array Value} {below : List Frame} {meth : Method} {c : Code} {cells slots : Nat} {Q : State → Prop} {cc : ByteArray} {nL : Nat} {ret : Option FieldType} {pc : Nat} {lv : List (Nat × Value)} {st : List Value} {σ : zSt} (C : zCx G p s m args meth c "VillageWaves$Text" cc nL ret) {g o : Nat} {fs : List Value} {v : Value} (hlive : (g, o) ∈ zL G) (he : zct G σ g o = .inr (5, fs)) (hv : fs[4]? = some v) (d : decode cc pc = .ok (.getfield 30, 3)) (kk : zWV G p l e R s m args below meth c nL cells slots Q (pc + 3) lv (v :: st) σ) : zWV G p l e R s m args below meth c nL cells slots Q pc lv (.ref (zad G g o) :: st) σ :=
  z_get C zin_5 rfl 4 (by decide) zq410 rfl hlive he hv d kk
theorem kl_Text_43 : zLV "VillageWaves$Text" 43 "VillageWaves$Row" y_Row_get b_Row_get 2 (some .int) 1 := ⟨zq475, zq476, zq477, zq96, zq478, rfl, ⟨by decide, by decide, by decide +kernel⟩⟩
theorem kl_Text_51 : zLS "VillageWaves$Text" 51 y_Text_isLetter b_Text_isLetter 1 (some .boolean) 1 := ⟨zq482, zq483, zq104, zq484, ⟨by decide, by decide, by decide +kernel⟩⟩
theorem pf_Text_30 {G : zLA} {p : Program} {l : Launch} {e : Env} {R : Room} {s : State} {m : MethodId} {args : Array Value} {below : List Frame} {meth : Method} {c : Code} {cells slots : Nat} {Q : State → Prop} {cc : ByteArray} {nL : Nat} {ret : Option FieldType} {pc : Nat} {lv : List (Nat × Value)} {st : List Value} {σ : zSt} (C : zCx G p s m args meth c "VillageWaves$Text" cc nL ret) {g o : Nat} {fs : List Value} {v : Int32} (hlive : (g, o) ∈ zL G) (he : zct G σ g o = .inr (5, fs)) (hl0 : 4 < fs.length) (hset : zshp G g o (upd (σ.1 g o) 4 v) (σ.2.1 o) (σ.2.2 o) = .inr (5, fs.set 4 (.int v))) (d : decode cc pc = .ok (.putfield 30, 3)) (kk : zWV G p l e R s m args below meth c nL cells slots Q (pc + 3) lv st (zst σ g o 4 v)) : zWV G p l e R s m args below meth c nL cells slots Q pc lv (.int v :: .ref (zad G g o) :: st) σ :=
  z_put C zin_5 zy5 zn5 rfl 4 (by decide) zq410 rfl rfl rfl hlive he hl0 hset d kk
theorem pf_Text_33 {G : zLA} {p : Program} {l : Launch} {e : Env} {R : Room} {s : State} {m : MethodId} {args : Array Value} {below : List Frame} {meth : Method} {c : Code} {cells slots : Nat} {Q : State → Prop} {cc : ByteArray} {nL : Nat} {ret : Option FieldType} {pc : Nat} {lv : List (Nat × Value)} {st : List Value} {σ : zSt} (C : zCx G p s m args meth c "VillageWaves$Text" cc nL ret) {g o : Nat} {fs : List Value} {v : Int32} (hlive : (g, o) ∈ zL G) (he : zct G σ g o = .inr (5, fs)) (hl0 : 5 < fs.length) (hset : zshp G g o (upd (σ.1 g o) 5 v) (σ.2.1 o) (σ.2.2 o) = .inr (5, fs.set 5 (.int v))) (d : decode cc pc = .ok (.putfield 33, 3)) (kk : zWV G p l e R s m args below meth c nL cells slots Q (pc + 3) lv st (zst σ g o 5 v)) : zWV G p l e R s m args below meth c nL cells slots Q pc lv (.int v :: .ref (zad G g o) :: st) σ :=
  z_put C zin_5 zy5 zn5 rfl 5 (by decide) zq411 rfl rfl rfl hlive he hl0 hset d kk
theorem kl_Text_57 : zLS "VillageWaves$Text" 57 y_Text_isDigit b_Text_isDigit 1 (some .boolean) 1 := ⟨zq489, zq490, zq104, zq491, ⟨by decide, by decide, by decide +kernel⟩⟩
theorem gf_Text_33 {G : zLA} {p : Program} {l : Launch} {e : Env} {R : Room} {s : State} {m : MethodId} {args : Array Value} {below : List Frame} {meth : Method} {c : Code} {cells slots : Nat} {Q : State → Prop} {cc : ByteArray} {nL : Nat} {ret : Option FieldType} {pc : Nat} {lv : List (Nat × Value)} {st : List Value} {σ : zSt} (C : zCx G p s m args meth c "VillageWaves$Text" cc nL ret) {g o : Nat} {fs : List Value} {v : Value} (hlive : (g, o) ∈ zL G) (he : zct G σ g o = .inr (5, fs)) (hv : fs[5]? = some v) (d : decode cc pc = .ok (.getfield 33, 3)) (kk : zWV G p l e R s m args below meth c nL cells slots Q (pc + 3) lv (v :: st) σ) : zWV G p l e R s m args below meth c nL cells slots Q pc lv (.ref (zad G g o) :: st) σ :=
  z_get C zin_5 rfl 5 (by decide) zq411 rfl hlive he hv d kk
theorem pf_Text_27 {G : zLA} {p : Program} {l : Launch} {e : Env} {R : Room} {s : State} {m : MethodId} {args : Array Value} {below : List Frame} {meth : Method} {c : Code} {cells slots : Nat} {Q : State → Prop} {cc : ByteArray} {nL : Nat} {ret : Option FieldType} {pc : Nat} {lv : List (Nat × Value)} {st : List Value} {σ : zSt} (C : zCx G p s m args meth c "VillageWaves$Text" cc nL ret) {g o : Nat} {fs : List Value} {v : Int32} (hlive : (g, o) ∈ zL G) (he : zct G σ g o = .inr (5, fs)) (hl0 : 3 < fs.length) (hset : zshp G g o (upd (σ.1 g o) 3 v) (σ.2.1 o) (σ.2.2 o) = .inr (5, fs.set 3 (.int v))) (d : decode cc pc = .ok (.putfield 27, 3)) (kk : zWV G p l e R s m args below meth c nL cells slots Q (pc + 3) lv st (zst σ g o 3 v)) : zWV G p l e R s m args below meth c nL cells slots Q pc lv (.int v :: .ref (zad G g o) :: st) σ :=
  z_put C zin_5 zy5 zn5 rfl 3 (by decide) zq408 rfl rfl rfl hlive he hl0 hset d kk
theorem gf_Text_27 {G : zLA} {p : Program} {l : Launch} {e : Env} {R : Room} {s : State} {m : MethodId} {args : Array Value} {below : List Frame} {meth : Method} {c : Code} {cells slots : Nat} {Q : State → Prop} {cc : ByteArray} {nL : Nat} {ret : Option FieldType} {pc : Nat} {lv : List (Nat × Value)} {st : List Value} {σ : zSt} (C : zCx G p s m args meth c "VillageWaves$Text" cc nL ret) {g o : Nat} {fs : List Value} {v : Value} (hlive : (g, o) ∈ zL G) (he : zct G σ g o = .inr (5, fs)) (hv : fs[3]? = some v) (d : decode cc pc = .ok (.getfield 27, 3)) (kk : zWV G p l e R s m args below meth c nL cells slots Q (pc + 3) lv (v :: st) σ) : zWV G p l e R s m args below meth c nL cells slots Q pc lv (.ref (zad G g o) :: st) σ :=
  z_get C zin_5 rfl 3 (by decide) zq408 rfl hlive he hv d kk
theorem kl_Text_47 : zLS "VillageWaves$Text" 47 y_Text_isBlank b_Text_isBlank 1 (some .boolean) 1 := ⟨zq479, zq480, zq104, zq481, ⟨by decide, by decide, by decide +kernel⟩⟩
theorem pf_Text_24 {G : zLA} {p : Program} {l : Launch} {e : Env} {R : Room} {s : State} {m : MethodId} {args : Array Value} {below : List Frame} {meth : Method} {c : Code} {cells slots : Nat} {Q : State → Prop} {cc : ByteArray} {nL : Nat} {ret : Option FieldType} {pc : Nat} {lv : List (Nat × Value)} {st : List Value} {σ : zSt} (C : zCx G p s m args meth c "VillageWaves$Text" cc nL ret) {g o : Nat} {fs : List Value} {v : Int32} (hlive : (g, o) ∈ zL G) (he : zct G σ g o = .inr (5, fs)) (hl0 : 2 < fs.length) (hset : zshp G g o (upd (σ.1 g o) 2 v) (σ.2.1 o) (σ.2.2 o) = .inr (5, fs.set 2 (.int v))) (d : decode cc pc = .ok (.putfield 24, 3)) (kk : zWV G p l e R s m args below meth c nL cells slots Q (pc + 3) lv st (zst σ g o 2 v)) : zWV G p l e R s m args below meth c nL cells slots Q pc lv (.int v :: .ref (zad G g o) :: st) σ :=
  z_put C zin_5 zy5 zn5 rfl 2 (by decide) zq406 rfl rfl rfl hlive he hl0 hset d kk
theorem kl_Text_60 : zLV "VillageWaves$Text" 60 "VillageWaves$Text" y_Text_readDigits b_Text_readDigits 1 none 0 := ⟨zq492, zq494, zq1, zq104, zq495, rfl, ⟨by decide, by decide, by decide +kernel⟩⟩
theorem kl_Text_54 : zLV "VillageWaves$Text" 54 "VillageWaves$Text" y_Text_skipLetters b_Text_skipLetters 1 none 0 := ⟨zq485, zq487, zq0, zq104, zq488, rfl, ⟨by decide, by decide, by decide +kernel⟩⟩
theorem kl_Text_40 : zLV "VillageWaves$Text" 40 "VillageWaves$Text" y_Text_step b_Text_step 1 none 0 := ⟨zq471, zq472, zq473, zq104, zq474, rfl, ⟨by decide, by decide, by decide +kernel⟩⟩
theorem gf_Text_24 {G : zLA} {p : Program} {l : Launch} {e : Env} {R : Room} {s : State} {m : MethodId} {args : Array Value} {below : List Frame} {meth : Method} {c : Code} {cells slots : Nat} {Q : State → Prop} {cc : ByteArray} {nL : Nat} {ret : Option FieldType} {pc : Nat} {lv : List (Nat × Value)} {st : List Value} {σ : zSt} (C : zCx G p s m args meth c "VillageWaves$Text" cc nL ret) {g o : Nat} {fs : List Value} {v : Value} (hlive : (g, o) ∈ zL G) (he : zct G σ g o = .inr (5, fs)) (hv : fs[2]? = some v) (d : decode cc pc = .ok (.getfield 24, 3)) (kk : zWV G p l e R s m args below meth c nL cells slots Q (pc + 3) lv (v :: st) σ) : zWV G p l e R s m args below meth c nL cells slots Q pc lv (.ref (zad G g o) :: st) σ :=
  z_get C zin_5 rfl 2 (by decide) zq406 rfl hlive he hv d kk
theorem kl_Text_63 : zLV "VillageWaves$Text" 63 "java/lang/String" y_String_length b_String_length 1 (some .int) 0 := ⟨zq505, zq506, zq507, zq111, zq508, rfl, ⟨by decide, by decide, by decide +kernel⟩⟩
theorem kl_Text_68 : zLV "VillageWaves$Text" 68 "java/lang/String" y_String_charAt b_String_charAt 2 (some .char) 1 := ⟨zq515, zq516, zq517, zq111, zq518, rfl, ⟨by decide, by decide, by decide +kernel⟩⟩
theorem pf_Reader_18 {G : zLA} {p : Program} {l : Launch} {e : Env} {R : Room} {s : State} {m : MethodId} {args : Array Value} {below : List Frame} {meth : Method} {c : Code} {cells slots : Nat} {Q : State → Prop} {cc : ByteArray} {nL : Nat} {ret : Option FieldType} {pc : Nat} {lv : List (Nat × Value)} {st : List Value} {σ : zSt} (C : zCx G p s m args meth c "VillageWaves$Reader" cc nL ret) {g o : Nat} {fs : List Value} {v : Int32} (hlive : (g, o) ∈ zL G) (he : zct G σ g o = .inr (3, fs)) (hl0 : 1 < fs.length) (hset : zshp G g o (upd (σ.1 g o) 1 v) (σ.2.1 o) (σ.2.2 o) = .inr (3, fs.set 1 (.int v))) (d : decode cc pc = .ok (.putfield 18, 3)) (kk : zWV G p l e R s m args below meth c nL cells slots Q (pc + 3) lv st (zst σ g o 1 v)) : zWV G p l e R s m args below meth c nL cells slots Q pc lv (.int v :: .ref (zad G g o) :: st) σ :=
  z_put C zin_3 zy3 zn3 rfl 1 (by decide) zq428 rfl rfl rfl hlive he hl0 hset d kk
theorem gf_Reader_12 {G : zLA} {p : Program} {l : Launch} {e : Env} {R : Room} {s : State} {m : MethodId} {args : Array Value} {below : List Frame} {meth : Method} {c : Code} {cells slots : Nat} {Q : State → Prop} {cc : ByteArray} {nL : Nat} {ret : Option FieldType} {pc : Nat} {lv : List (Nat × Value)} {st : List Value} {σ : zSt} (C : zCx G p s m args meth c "VillageWaves$Reader" cc nL ret) {g o : Nat} {fs : List Value} {v : Value} (hlive : (g, o) ∈ zL G) (he : zct G σ g o = .inr (3, fs)) (hv : fs[0]? = some v) (d : decode cc pc = .ok (.getfield 12, 3)) (kk : zWV G p l e R s m args below meth c nL cells slots Q (pc + 3) lv (v :: st) σ) : zWV G p l e R s m args below meth c nL cells slots Q pc lv (.ref (zad G g o) :: st) σ :=
  z_get C zin_3 rfl 0 (by decide) zq426 rfl hlive he hv d kk
theorem gf_Reader_139 {G : zLA} {p : Program} {l : Launch} {e : Env} {R : Room} {s : State} {m : MethodId} {args : Array Value} {below : List Frame} {meth : Method} {c : Code} {cells slots : Nat} {Q : State → Prop} {cc : ByteArray} {nL : Nat} {ret : Option FieldType} {pc : Nat} {lv : List (Nat × Value)} {st : List Value} {σ : zSt} (C : zCx G p s m args meth c "VillageWaves$Reader" cc nL ret) {g o : Nat} {fs : List Value} {v : Value} (hlive : (g, o) ∈ zL G) (he : zct G σ g o = .inr (5, fs)) (hv : fs[3]? = some v) (d : decode cc pc = .ok (.getfield 139, 3)) (kk : zWV G p l e R s m args below meth c nL cells slots Q (pc + 3) lv (v :: st) σ) : zWV G p l e R s m args below meth c nL cells slots Q pc lv (.ref (zad G g o) :: st) σ :=
  z_getN C zin_5 rfl 3 (by decide) zp409 rfl hlive he hv d kk
theorem pf_Reader_22 {G : zLA} {p : Program} {l : Launch} {e : Env} {R : Room} {s : State} {m : MethodId} {args : Array Value} {below : List Frame} {meth : Method} {c : Code} {cells slots : Nat} {Q : State → Prop} {cc : ByteArray} {nL : Nat} {ret : Option FieldType} {pc : Nat} {lv : List (Nat × Value)} {st : List Value} {σ : zSt} (C : zCx G p s m args meth c "VillageWaves$Reader" cc nL ret) {g o : Nat} {fs : List Value} {v : Int32} (hlive : (g, o) ∈ zL G) (he : zct G σ g o = .inr (3, fs)) (hl0 : 2 < fs.length) (hset : zshp G g o (upd (σ.1 g o) 2 v) (σ.2.1 o) (σ.2.2 o) = .inr (3, fs.set 2 (.int v))) (d : decode cc pc = .ok (.putfield 22, 3)) (kk : zWV G p l e R s m args below meth c nL cells slots Q (pc + 3) lv st (zst σ g o 2 v)) : zWV G p l e R s m args below meth c nL cells slots Q pc lv (.int v :: .ref (zad G g o) :: st) σ :=
  z_put C zin_3 zy3 zn3 rfl 2 (by decide) zq430 rfl rfl rfl hlive he hl0 hset d kk
theorem gf_Reader_18 {G : zLA} {p : Program} {l : Launch} {e : Env} {R : Room} {s : State} {m : MethodId} {args : Array Value} {below : List Frame} {meth : Method} {c : Code} {cells slots : Nat} {Q : State → Prop} {cc : ByteArray} {nL : Nat} {ret : Option FieldType} {pc : Nat} {lv : List (Nat × Value)} {st : List Value} {σ : zSt} (C : zCx G p s m args meth c "VillageWaves$Reader" cc nL ret) {g o : Nat} {fs : List Value} {v : Value} (hlive : (g, o) ∈ zL G) (he : zct G σ g o = .inr (3, fs)) (hv : fs[1]? = some v) (d : decode cc pc = .ok (.getfield 18, 3)) (kk : zWV G p l e R s m args below meth c nL cells slots Q (pc + 3) lv (v :: st) σ) : zWV G p l e R s m args below meth c nL cells slots Q pc lv (.ref (zad G g o) :: st) σ :=
  z_get C zin_3 rfl 1 (by decide) zq428 rfl hlive he hv d kk
theorem gf_Reader_51 {G : zLA} {p : Program} {l : Launch} {e : Env} {R : Room} {s : State} {m : MethodId} {args : Array Value} {below : List Frame} {meth : Method} {c : Code} {cells slots : Nat} {Q : State → Prop} {cc : ByteArray} {nL : Nat} {ret : Option FieldType} {pc : Nat} {lv : List (Nat × Value)} {st : List Value} {σ : zSt} (C : zCx G p s m args meth c "VillageWaves$Reader" cc nL ret) {g o : Nat} {fs : List Value} {v : Value} (hlive : (g, o) ∈ zL G) (he : zct G σ g o = .inr (5, fs)) (hv : fs[2]? = some v) (d : decode cc pc = .ok (.getfield 51, 3)) (kk : zWV G p l e R s m args below meth c nL cells slots Q (pc + 3) lv (v :: st) σ) : zWV G p l e R s m args below meth c nL cells slots Q pc lv (.ref (zad G g o) :: st) σ :=
  z_getN C zin_5 rfl 2 (by decide) zp407 rfl hlive he hv d kk
theorem gf_Reader_136 {G : zLA} {p : Program} {l : Launch} {e : Env} {R : Room} {s : State} {m : MethodId} {args : Array Value} {below : List Frame} {meth : Method} {c : Code} {cells slots : Nat} {Q : State → Prop} {cc : ByteArray} {nL : Nat} {ret : Option FieldType} {pc : Nat} {lv : List (Nat × Value)} {st : List Value} {σ : zSt} (C : zCx G p s m args meth c "VillageWaves$Reader" cc nL ret) {g o : Nat} {fs : List Value} {v : Value} (hlive : (g, o) ∈ zL G) (he : zct G σ g o = .inr (5, fs)) (hv : fs[5]? = some v) (d : decode cc pc = .ok (.getfield 136, 3)) (kk : zWV G p l e R s m args below meth c nL cells slots Q (pc + 3) lv (v :: st) σ) : zWV G p l e R s m args below meth c nL cells slots Q pc lv (.ref (zad G g o) :: st) σ :=
  z_getN C zin_5 rfl 5 (by decide) zp412 rfl hlive he hv d kk
theorem kl_Reader_76 : zLV "VillageWaves$Reader" 76 "VillageWaves$Reader" y_Reader_fail b_Reader_fail 2 none 1 := ⟨zq558, zq560, zq3, zq103, zq561, rfl, ⟨by decide, by decide, by decide +kernel⟩⟩
theorem kl_Reader_39 : zLV "VillageWaves$Reader" 39 "VillageWaves$Text" y_Text_step b_Text_step 1 none 0 := ⟨zq553, zq472, zq473, zq104, zq474, rfl, ⟨by decide, by decide, by decide +kernel⟩⟩
theorem gf_Reader_80 {G : zLA} {p : Program} {l : Launch} {e : Env} {R : Room} {s : State} {m : MethodId} {args : Array Value} {below : List Frame} {meth : Method} {c : Code} {cells slots : Nat} {Q : State → Prop} {cc : ByteArray} {nL : Nat} {ret : Option FieldType} {pc : Nat} {lv : List (Nat × Value)} {st : List Value} {σ : zSt} (C : zCx G p s m args meth c "VillageWaves$Reader" cc nL ret) {g o : Nat} {fs : List Value} {v : Value} (hlive : (g, o) ∈ zL G) (he : zct G σ g o = .inr (7, fs)) (hv : fs[5]? = some v) (d : decode cc pc = .ok (.getfield 80, 3)) (kk : zWV G p l e R s m args below meth c nL cells slots Q (pc + 3) lv (v :: st) σ) : zWV G p l e R s m args below meth c nL cells slots Q pc lv (.ref (zad G g o) :: st) σ :=
  z_getN C zin_7 rfl 5 (by decide) zp346 rfl hlive he hv d kk
theorem kl_Reader_84 : zLV "VillageWaves$Reader" 84 "VillageWaves$Homes" y_Homes_isFull b_Homes_isFull 1 (some .boolean) 0 := ⟨zq571, zq572, zq573, zq98, zq574, rfl, ⟨by decide, by decide, by decide +kernel⟩⟩
theorem kl_Reader_42 : zLV "VillageWaves$Reader" 42 "VillageWaves$Reader" y_Reader_readNumber b_Reader_readNumber 4 (some .int) 2 := ⟨zq554, zq556, zq2, zq103, zq557, rfl, ⟨by decide, by decide, by decide +kernel⟩⟩
theorem kl_Reader_90 : zLV "VillageWaves$Reader" 90 "VillageWaves$Homes" y_Homes_add b_Homes_add 8 (some .int) 5 := ⟨zq575, zq576, zq577, zq98, zq578, rfl, ⟨by decide, by decide, by decide +kernel⟩⟩
theorem kl_Reader_35 : zLV "VillageWaves$Reader" 35 "VillageWaves$Text" y_Text_isWord b_Text_isWord 3 (some .boolean) 1 := ⟨zq501, zq502, zq503, zq104, zq504, rfl, ⟨by decide, by decide, by decide +kernel⟩⟩
theorem gf_Reader_96 {G : zLA} {p : Program} {l : Launch} {e : Env} {R : Room} {s : State} {m : MethodId} {args : Array Value} {below : List Frame} {meth : Method} {c : Code} {cells slots : Nat} {Q : State → Prop} {cc : ByteArray} {nL : Nat} {ret : Option FieldType} {pc : Nat} {lv : List (Nat × Value)} {st : List Value} {σ : zSt} (C : zCx G p s m args meth c "VillageWaves$Reader" cc nL ret) {g o : Nat} {fs : List Value} {v : Value} (hlive : (g, o) ∈ zL G) (he : zct G σ g o = .inr (1, fs)) (hv : fs[6]? = some v) (d : decode cc pc = .ok (.getfield 96, 3)) (kk : zWV G p l e R s m args below meth c nL cells slots Q (pc + 3) lv (v :: st) σ) : zWV G p l e R s m args below meth c nL cells slots Q pc lv (.ref (zad G g o) :: st) σ :=
  z_getN C zin_1 rfl 6 (by decide) zp171 rfl hlive he hv d kk
theorem gf_Reader_46 {G : zLA} {p : Program} {l : Launch} {e : Env} {R : Room} {s : State} {m : MethodId} {args : Array Value} {below : List Frame} {meth : Method} {c : Code} {cells slots : Nat} {Q : State → Prop} {cc : ByteArray} {nL : Nat} {ret : Option FieldType} {pc : Nat} {lv : List (Nat × Value)} {st : List Value} {σ : zSt} (C : zCx G p s m args meth c "VillageWaves$Reader" cc nL ret) {g o : Nat} {fs : List Value} {v : Value} (hlive : (g, o) ∈ zL G) (he : zct G σ g o = .inr (7, fs)) (hv : fs[0]? = some v) (d : decode cc pc = .ok (.getfield 46, 3)) (kk : zWV G p l e R s m args below meth c nL cells slots Q (pc + 3) lv (v :: st) σ) : zWV G p l e R s m args below meth c nL cells slots Q pc lv (.ref (zad G g o) :: st) σ :=
  z_getN C zin_7 rfl 0 (by decide) zp333 rfl hlive he hv d kk
theorem kl_Reader_100 : zLV "VillageWaves$Reader" 100 "VillageWaves$Row" y_Row_put b_Row_put 3 none 2 := ⟨zq594, zq306, zq307, zq96, zq308, rfl, ⟨by decide, by decide, by decide +kernel⟩⟩
theorem gf_Reader_106 {G : zLA} {p : Program} {l : Launch} {e : Env} {R : Room} {s : State} {m : MethodId} {args : Array Value} {below : List Frame} {meth : Method} {c : Code} {cells slots : Nat} {Q : State → Prop} {cc : ByteArray} {nL : Nat} {ret : Option FieldType} {pc : Nat} {lv : List (Nat × Value)} {st : List Value} {σ : zSt} (C : zCx G p s m args meth c "VillageWaves$Reader" cc nL ret) {g o : Nat} {fs : List Value} {v : Value} (hlive : (g, o) ∈ zL G) (he : zct G σ g o = .inr (1, fs)) (hv : fs[7]? = some v) (d : decode cc pc = .ok (.getfield 106, 3)) (kk : zWV G p l e R s m args below meth c nL cells slots Q (pc + 3) lv (v :: st) σ) : zWV G p l e R s m args below meth c nL cells slots Q pc lv (.ref (zad G g o) :: st) σ :=
  z_getN C zin_1 rfl 7 (by decide) zp174 rfl hlive he hv d kk
theorem kl_Reader_113 : zLSN "VillageWaves$Reader" 113 y_Waves_element "VillageWaves" b_Waves_element 2 (some .int) 2 := ⟨zp602, zq303, zq94, zq304, ⟨by decide, by decide, by decide +kernel⟩⟩
theorem gf_Reader_120 {G : zLA} {p : Program} {l : Launch} {e : Env} {R : Room} {s : State} {m : MethodId} {args : Array Value} {below : List Frame} {meth : Method} {c : Code} {cells slots : Nat} {Q : State → Prop} {cc : ByteArray} {nL : Nat} {ret : Option FieldType} {pc : Nat} {lv : List (Nat × Value)} {st : List Value} {σ : zSt} (C : zCx G p s m args meth c "VillageWaves$Reader" cc nL ret) {g o : Nat} {fs : List Value} {v : Value} (hlive : (g, o) ∈ zL G) (he : zct G σ g o = .inr (7, fs)) (hv : fs[4]? = some v) (d : decode cc pc = .ok (.getfield 120, 3)) (kk : zWV G p l e R s m args below meth c nL cells slots Q (pc + 3) lv (v :: st) σ) : zWV G p l e R s m args below meth c nL cells slots Q pc lv (.ref (zad G g o) :: st) σ :=
  z_getN C zin_7 rfl 4 (by decide) zp343 rfl hlive he hv d kk
theorem gf_Reader_123 {G : zLA} {p : Program} {l : Launch} {e : Env} {R : Room} {s : State} {m : MethodId} {args : Array Value} {below : List Frame} {meth : Method} {c : Code} {cells slots : Nat} {Q : State → Prop} {cc : ByteArray} {nL : Nat} {ret : Option FieldType} {pc : Nat} {lv : List (Nat × Value)} {st : List Value} {σ : zSt} (C : zCx G p s m args meth c "VillageWaves$Reader" cc nL ret) {g o : Nat} {fs : List Value} {v : Value} (hlive : (g, o) ∈ zL G) (he : zct G σ g o = .inr (7, fs)) (hv : fs[6]? = some v) (d : decode cc pc = .ok (.getfield 123, 3)) (kk : zWV G p l e R s m args below meth c nL cells slots Q (pc + 3) lv (v :: st) σ) : zWV G p l e R s m args below meth c nL cells slots Q pc lv (.ref (zad G g o) :: st) σ :=
  z_getN C zin_7 rfl 6 (by decide) zp349 rfl hlive he hv d kk
theorem kl_Reader_127 : zLV "VillageWaves$Reader" 127 "VillageWaves$Tidings" y_Tidings_isFull b_Tidings_isFull 1 (some .boolean) 0 := ⟨zq612, zq613, zq614, zq99, zq615, rfl, ⟨by decide, by decide, by decide +kernel⟩⟩
theorem gf_Reader_130 {G : zLA} {p : Program} {l : Launch} {e : Env} {R : Room} {s : State} {m : MethodId} {args : Array Value} {below : List Frame} {meth : Method} {c : Code} {cells slots : Nat} {Q : State → Prop} {cc : ByteArray} {nL : Nat} {ret : Option FieldType} {pc : Nat} {lv : List (Nat × Value)} {st : List Value} {σ : zSt} (C : zCx G p s m args meth c "VillageWaves$Reader" cc nL ret) {g o : Nat} {fs : List Value} {v : Value} (hlive : (g, o) ∈ zL G) (he : zct G σ g o = .inr (1, fs)) (hv : fs[0]? = some v) (d : decode cc pc = .ok (.getfield 130, 3)) (kk : zWV G p l e R s m args below meth c nL cells slots Q (pc + 3) lv (v :: st) σ) : zWV G p l e R s m args below meth c nL cells slots Q pc lv (.ref (zad G g o) :: st) σ :=
  z_getN C zin_1 rfl 0 (by decide) zp156 rfl hlive he hv d kk
theorem kl_Reader_133 : zLV "VillageWaves$Reader" 133 "VillageWaves$Village" y_Village_addNews b_Village_addNews 5 (some .int) 2 := ⟨zq616, zq617, zq618, zq95, zq619, rfl, ⟨by decide, by decide, by decide +kernel⟩⟩
theorem kl_Reader_25 : zLV "VillageWaves$Reader" 25 "VillageWaves$Village" y_Village_clear b_Village_clear 2 none 0 := ⟨zq466, zq297, zq298, zq95, zq299, rfl, ⟨by decide, by decide, by decide +kernel⟩⟩
theorem kl_Reader_30 : zLV "VillageWaves$Reader" 30 "VillageWaves$Text" y_Text_rewind b_Text_rewind 1 none 0 := ⟨zq467, zq468, zq469, zq104, zq470, rfl, ⟨by decide, by decide, by decide +kernel⟩⟩
theorem pf_Reader_46 {G : zLA} {p : Program} {l : Launch} {e : Env} {R : Room} {s : State} {m : MethodId} {args : Array Value} {below : List Frame} {meth : Method} {c : Code} {cells slots : Nat} {Q : State → Prop} {cc : ByteArray} {nL : Nat} {ret : Option FieldType} {pc : Nat} {lv : List (Nat × Value)} {st : List Value} {σ : zSt} (C : zCx G p s m args meth c "VillageWaves$Reader" cc nL ret) {g o : Nat} {fs : List Value} {v : Int32} (hlive : (g, o) ∈ zL G) (he : zct G σ g o = .inr (7, fs)) (hl0 : 0 < fs.length) (hset : zshp G g o (upd (σ.1 g o) 0 v) (σ.2.1 o) (σ.2.2 o) = .inr (7, fs.set 0 (.int v))) (d : decode cc pc = .ok (.putfield 46, 3)) (kk : zWV G p l e R s m args below meth c nL cells slots Q (pc + 3) lv st (zst σ g o 0 v)) : zWV G p l e R s m args below meth c nL cells slots Q pc lv (.int v :: .ref (zad G g o) :: st) σ :=
  z_putN C zin_7 zy7 zn7 rfl 0 (by decide) zp333 rfl rfl rfl hlive he hl0 hset d kk
theorem kl_Reader_48 : zLV "VillageWaves$Reader" 48 "VillageWaves$Reader" y_Reader_readSemicolon b_Reader_readSemicolon 1 none 0 := ⟨zq562, zq564, zq4, zq103, zq565, rfl, ⟨by decide, by decide, by decide +kernel⟩⟩
theorem kl_Reader_73 : zLV "VillageWaves$Reader" 73 "VillageWaves$Reader" y_Reader_readNews b_Reader_readNews 4 none 1 := ⟨zq608, zq610, zq9, zq103, zq611, rfl, ⟨by decide, by decide, by decide +kernel⟩⟩
theorem pf_Reader_68 {G : zLA} {p : Program} {l : Launch} {e : Env} {R : Room} {s : State} {m : MethodId} {args : Array Value} {below : List Frame} {meth : Method} {c : Code} {cells slots : Nat} {Q : State → Prop} {cc : ByteArray} {nL : Nat} {ret : Option FieldType} {pc : Nat} {lv : List (Nat × Value)} {st : List Value} {σ : zSt} (C : zCx G p s m args meth c "VillageWaves$Reader" cc nL ret) {g o : Nat} {fs : List Value} {v : Int32} (hlive : (g, o) ∈ zL G) (he : zct G σ g o = .inr (7, fs)) (hl0 : 2 < fs.length) (hset : zshp G g o (upd (σ.1 g o) 2 v) (σ.2.1 o) (σ.2.2 o) = .inr (7, fs.set 2 (.int v))) (d : decode cc pc = .ok (.putfield 68, 3)) (kk : zWV G p l e R s m args below meth c nL cells slots Q (pc + 3) lv st (zst σ g o 2 v)) : zWV G p l e R s m args below meth c nL cells slots Q pc lv (.int v :: .ref (zad G g o) :: st) σ :=
  z_putN C zin_7 zy7 zn7 rfl 2 (by decide) zp338 rfl rfl rfl hlive he hl0 hset d kk
theorem kl_Reader_62 : zLV "VillageWaves$Reader" 62 "VillageWaves$Reader" y_Reader_readSetting b_Reader_readSetting 4 none 1 := ⟨zq596, zq598, zq8, zq103, zq599, rfl, ⟨by decide, by decide, by decide +kernel⟩⟩
theorem kl_Reader_56 : zLV "VillageWaves$Reader" 56 "VillageWaves$Reader" y_Reader_readHouse b_Reader_readHouse 8 none 1 := ⟨zq567, zq569, zq5, zq103, zq570, rfl, ⟨by decide, by decide, by decide +kernel⟩⟩
theorem gf_Waves_32 {G : zLA} {p : Program} {l : Launch} {e : Env} {R : Room} {s : State} {m : MethodId} {args : Array Value} {below : List Frame} {meth : Method} {c : Code} {cells slots : Nat} {Q : State → Prop} {cc : ByteArray} {nL : Nat} {ret : Option FieldType} {pc : Nat} {lv : List (Nat × Value)} {st : List Value} {σ : zSt} (C : zCx G p s m args meth c "VillageWaves" cc nL ret) {g o : Nat} {fs : List Value} {v : Value} (hlive : (g, o) ∈ zL G) (he : zct G σ g o = .inr (8, fs)) (hv : fs[5]? = some v) (d : decode cc pc = .ok (.getfield 32, 3)) (kk : zWV G p l e R s m args below meth c nL cells slots Q (pc + 3) lv (v :: st) σ) : zWV G p l e R s m args below meth c nL cells slots Q pc lv (.ref (zad G g o) :: st) σ :=
  z_get C zin_8 rfl 5 (by decide) zq444 rfl hlive he hv d kk
theorem gf_Waves_36 {G : zLA} {p : Program} {l : Launch} {e : Env} {R : Room} {s : State} {m : MethodId} {args : Array Value} {below : List Frame} {meth : Method} {c : Code} {cells slots : Nat} {Q : State → Prop} {cc : ByteArray} {nL : Nat} {ret : Option FieldType} {pc : Nat} {lv : List (Nat × Value)} {st : List Value} {σ : zSt} (C : zCx G p s m args meth c "VillageWaves" cc nL ret) {g o : Nat} {fs : List Value} {v : Value} (hlive : (g, o) ∈ zL G) (he : zct G σ g o = .inr (3, fs)) (hv : fs[0]? = some v) (d : decode cc pc = .ok (.getfield 36, 3)) (kk : zWV G p l e R s m args below meth c nL cells slots Q (pc + 3) lv (v :: st) σ) : zWV G p l e R s m args below meth c nL cells slots Q pc lv (.ref (zad G g o) :: st) σ :=
  z_getN C zin_3 rfl 0 (by decide) zp427 rfl hlive he hv d kk
theorem gf_Waves_40 {G : zLA} {p : Program} {l : Launch} {e : Env} {R : Room} {s : State} {m : MethodId} {args : Array Value} {below : List Frame} {meth : Method} {c : Code} {cells slots : Nat} {Q : State → Prop} {cc : ByteArray} {nL : Nat} {ret : Option FieldType} {pc : Nat} {lv : List (Nat × Value)} {st : List Value} {σ : zSt} (C : zCx G p s m args meth c "VillageWaves" cc nL ret) {g o : Nat} {fs : List Value} {v : Value} (hlive : (g, o) ∈ zL G) (he : zct G σ g o = .inr (5, fs)) (hv : fs[1]? = some v) (d : decode cc pc = .ok (.getfield 40, 3)) (kk : zWV G p l e R s m args below meth c nL cells slots Q (pc + 3) lv (v :: st) σ) : zWV G p l e R s m args below meth c nL cells slots Q pc lv (.ref (zad G g o) :: st) σ :=
  z_getN C zin_5 rfl 1 (by decide) zp405 rfl hlive he hv d kk
theorem kl_Waves_52 : zLV "VillageWaves" 52 "VillageWaves$Text" y_Text_append b_Text_append 2 none 1 := ⟨zq832, zq833, zq834, zq104, zq835, rfl, ⟨by decide, by decide, by decide +kernel⟩⟩
theorem kl_Waves_56 : zLS "VillageWaves" 56 y_Waves_checkWithin b_Waves_checkWithin 3 none 3 := ⟨zq845, zq846, zq94, zq847, ⟨by decide, by decide, by decide +kernel⟩⟩
theorem pf_Waves_40 {G : zLA} {p : Program} {l : Launch} {e : Env} {R : Room} {s : State} {m : MethodId} {args : Array Value} {below : List Frame} {meth : Method} {c : Code} {cells slots : Nat} {Q : State → Prop} {cc : ByteArray} {nL : Nat} {ret : Option FieldType} {pc : Nat} {lv : List (Nat × Value)} {st : List Value} {σ : zSt} (C : zCx G p s m args meth c "VillageWaves" cc nL ret) {g o : Nat} {fs : List Value} {v : Int32} (hlive : (g, o) ∈ zL G) (he : zct G σ g o = .inr (5, fs)) (hl0 : 1 < fs.length) (hset : zshp G g o (upd (σ.1 g o) 1 v) (σ.2.1 o) (σ.2.2 o) = .inr (5, fs.set 1 (.int v))) (d : decode cc pc = .ok (.putfield 40, 3)) (kk : zWV G p l e R s m args below meth c nL cells slots Q (pc + 3) lv st (zst σ g o 1 v)) : zWV G p l e R s m args below meth c nL cells slots Q pc lv (.int v :: .ref (zad G g o) :: st) σ :=
  z_putN C zin_5 zy5 zn5 rfl 1 (by decide) zp405 rfl rfl rfl hlive he hl0 hset d kk
theorem gf_Waves_16 {G : zLA} {p : Program} {l : Launch} {e : Env} {R : Room} {s : State} {m : MethodId} {args : Array Value} {below : List Frame} {meth : Method} {c : Code} {cells slots : Nat} {Q : State → Prop} {cc : ByteArray} {nL : Nat} {ret : Option FieldType} {pc : Nat} {lv : List (Nat × Value)} {st : List Value} {σ : zSt} (C : zCx G p s m args meth c "VillageWaves" cc nL ret) {g o : Nat} {fs : List Value} {v : Value} (hlive : (g, o) ∈ zL G) (he : zct G σ g o = .inr (8, fs)) (hv : fs[1]? = some v) (d : decode cc pc = .ok (.getfield 16, 3)) (kk : zWV G p l e R s m args below meth c nL cells slots Q (pc + 3) lv (v :: st) σ) : zWV G p l e R s m args below meth c nL cells slots Q pc lv (.ref (zad G g o) :: st) σ :=
  z_get C zin_8 rfl 1 (by decide) zq440 rfl hlive he hv d kk
theorem kl_Waves_60 : zLV "VillageWaves" 60 "VillageWaves$Reader" y_Reader_readSetup b_Reader_readSetup 3 (some .boolean) 1 := ⟨zq462, zq463, zq464, zq103, zq465, rfl, ⟨by decide, by decide, by decide +kernel⟩⟩
theorem gf_Waves_10 {G : zLA} {p : Program} {l : Launch} {e : Env} {R : Room} {s : State} {m : MethodId} {args : Array Value} {below : List Frame} {meth : Method} {c : Code} {cells slots : Nat} {Q : State → Prop} {cc : ByteArray} {nL : Nat} {ret : Option FieldType} {pc : Nat} {lv : List (Nat × Value)} {st : List Value} {σ : zSt} (C : zCx G p s m args meth c "VillageWaves" cc nL ret) {g o : Nat} {fs : List Value} {v : Value} (hlive : (g, o) ∈ zL G) (he : zct G σ g o = .inr (8, fs)) (hv : fs[0]? = some v) (d : decode cc pc = .ok (.getfield 10, 3)) (kk : zWV G p l e R s m args below meth c nL cells slots Q (pc + 3) lv (v :: st) σ) : zWV G p l e R s m args below meth c nL cells slots Q pc lv (.ref (zad G g o) :: st) σ :=
  z_get C zin_8 rfl 0 (by decide) zq439 rfl hlive he hv d kk
theorem kl_Waves_64 : zLV "VillageWaves" 64 "VillageWaves$Village" y_Village_copyFrom b_Village_copyFrom 2 none 1 := ⟨zq638, zq639, zq640, zq95, zq641, rfl, ⟨by decide, by decide, by decide +kernel⟩⟩
theorem gf_Waves_68 {G : zLA} {p : Program} {l : Launch} {e : Env} {R : Room} {s : State} {m : MethodId} {args : Array Value} {below : List Frame} {meth : Method} {c : Code} {cells slots : Nat} {Q : State → Prop} {cc : ByteArray} {nL : Nat} {ret : Option FieldType} {pc : Nat} {lv : List (Nat × Value)} {st : List Value} {σ : zSt} (C : zCx G p s m args meth c "VillageWaves" cc nL ret) {g o : Nat} {fs : List Value} {v : Value} (hlive : (g, o) ∈ zL G) (he : zct G σ g o = .inr (7, fs)) (hv : fs[5]? = some v) (d : decode cc pc = .ok (.getfield 68, 3)) (kk : zWV G p l e R s m args below meth c nL cells slots Q (pc + 3) lv (v :: st) σ) : zWV G p l e R s m args below meth c nL cells slots Q pc lv (.ref (zad G g o) :: st) σ :=
  z_getN C zin_7 rfl 5 (by decide) zp347 rfl hlive he hv d kk
theorem gf_Waves_72 {G : zLA} {p : Program} {l : Launch} {e : Env} {R : Room} {s : State} {m : MethodId} {args : Array Value} {below : List Frame} {meth : Method} {c : Code} {cells slots : Nat} {Q : State → Prop} {cc : ByteArray} {nL : Nat} {ret : Option FieldType} {pc : Nat} {lv : List (Nat × Value)} {st : List Value} {σ : zSt} (C : zCx G p s m args meth c "VillageWaves" cc nL ret) {g o : Nat} {fs : List Value} {v : Value} (hlive : (g, o) ∈ zL G) (he : zct G σ g o = .inr (1, fs)) (hv : fs[0]? = some v) (d : decode cc pc = .ok (.getfield 72, 3)) (kk : zWV G p l e R s m args below meth c nL cells slots Q (pc + 3) lv (v :: st) σ) : zWV G p l e R s m args below meth c nL cells slots Q pc lv (.ref (zad G g o) :: st) σ :=
  z_getN C zin_1 rfl 0 (by decide) zp155 rfl hlive he hv d kk
theorem gf_Waves_77 {G : zLA} {p : Program} {l : Launch} {e : Env} {R : Room} {s : State} {m : MethodId} {args : Array Value} {below : List Frame} {meth : Method} {c : Code} {cells slots : Nat} {Q : State → Prop} {cc : ByteArray} {nL : Nat} {ret : Option FieldType} {pc : Nat} {lv : List (Nat × Value)} {st : List Value} {σ : zSt} (C : zCx G p s m args meth c "VillageWaves" cc nL ret) {g o : Nat} {fs : List Value} {v : Value} (hlive : (g, o) ∈ zL G) (he : zct G σ g o = .inr (3, fs)) (hv : fs[1]? = some v) (d : decode cc pc = .ok (.getfield 77, 3)) (kk : zWV G p l e R s m args below meth c nL cells slots Q (pc + 3) lv (v :: st) σ) : zWV G p l e R s m args below meth c nL cells slots Q pc lv (.ref (zad G g o) :: st) σ :=
  z_getN C zin_3 rfl 1 (by decide) zp429 rfl hlive he hv d kk
theorem gf_Waves_80 {G : zLA} {p : Program} {l : Launch} {e : Env} {R : Room} {s : State} {m : MethodId} {args : Array Value} {below : List Frame} {meth : Method} {c : Code} {cells slots : Nat} {Q : State → Prop} {cc : ByteArray} {nL : Nat} {ret : Option FieldType} {pc : Nat} {lv : List (Nat × Value)} {st : List Value} {σ : zSt} (C : zCx G p s m args meth c "VillageWaves" cc nL ret) {g o : Nat} {fs : List Value} {v : Value} (hlive : (g, o) ∈ zL G) (he : zct G σ g o = .inr (3, fs)) (hv : fs[2]? = some v) (d : decode cc pc = .ok (.getfield 80, 3)) (kk : zWV G p l e R s m args below meth c nL cells slots Q (pc + 3) lv (v :: st) σ) : zWV G p l e R s m args below meth c nL cells slots Q pc lv (.ref (zad G g o) :: st) σ :=
  z_getN C zin_3 rfl 2 (by decide) zp431 rfl hlive he hv d kk
theorem kl_Waves_83 : zLV "VillageWaves" 83 "VillageWaves$Homes" y_Homes_isFull b_Homes_isFull 1 (some .boolean) 0 := ⟨zq871, zq572, zq573, zq98, zq574, rfl, ⟨by decide, by decide, by decide +kernel⟩⟩
theorem kl_Waves_89 : zLV "VillageWaves" 89 "VillageWaves$Homes" y_Homes_add b_Homes_add 8 (some .int) 5 := ⟨zq873, zq576, zq577, zq98, zq578, rfl, ⟨by decide, by decide, by decide +kernel⟩⟩
theorem kl_Waves_93 : zLV "VillageWaves" 93 "VillageWaves" y_Waves_checkHouse b_Waves_checkHouse 2 none 1 := ⟨zq882, zq884, zq14, zq94, zq885, rfl, ⟨by decide, by decide, by decide +kernel⟩⟩
theorem gf_Waves_96 {G : zLA} {p : Program} {l : Launch} {e : Env} {R : Room} {s : State} {m : MethodId} {args : Array Value} {below : List Frame} {meth : Method} {c : Code} {cells slots : Nat} {Q : State → Prop} {cc : ByteArray} {nL : Nat} {ret : Option FieldType} {pc : Nat} {lv : List (Nat × Value)} {st : List Value} {σ : zSt} (C : zCx G p s m args meth c "VillageWaves" cc nL ret) {g o : Nat} {fs : List Value} {v : Value} (hlive : (g, o) ∈ zL G) (he : zct G σ g o = .inr (7, fs)) (hv : fs[0]? = some v) (d : decode cc pc = .ok (.getfield 96, 3)) (kk : zWV G p l e R s m args below meth c nL cells slots Q (pc + 3) lv (v :: st) σ) : zWV G p l e R s m args below meth c nL cells slots Q pc lv (.ref (zad G g o) :: st) σ :=
  z_getN C zin_7 rfl 0 (by decide) zp334 rfl hlive he hv d kk
theorem gf_Waves_104 {G : zLA} {p : Program} {l : Launch} {e : Env} {R : Room} {s : State} {m : MethodId} {args : Array Value} {below : List Frame} {meth : Method} {c : Code} {cells slots : Nat} {Q : State → Prop} {cc : ByteArray} {nL : Nat} {ret : Option FieldType} {pc : Nat} {lv : List (Nat × Value)} {st : List Value} {σ : zSt} (C : zCx G p s m args meth c "VillageWaves" cc nL ret) {g o : Nat} {fs : List Value} {v : Value} (hlive : (g, o) ∈ zL G) (he : zct G σ g o = .inr (1, fs)) (hv : fs[6]? = some v) (d : decode cc pc = .ok (.getfield 104, 3)) (kk : zWV G p l e R s m args below meth c nL cells slots Q (pc + 3) lv (v :: st) σ) : zWV G p l e R s m args below meth c nL cells slots Q pc lv (.ref (zad G g o) :: st) σ :=
  z_getN C zin_1 rfl 6 (by decide) zp172 rfl hlive he hv d kk
theorem kl_Waves_108 : zLV "VillageWaves" 108 "VillageWaves$Row" y_Row_put b_Row_put 3 none 2 := ⟨zq903, zq306, zq307, zq96, zq308, rfl, ⟨by decide, by decide, by decide +kernel⟩⟩
theorem gf_Waves_114 {G : zLA} {p : Program} {l : Launch} {e : Env} {R : Room} {s : State} {m : MethodId} {args : Array Value} {below : List Frame} {meth : Method} {c : Code} {cells slots : Nat} {Q : State → Prop} {cc : ByteArray} {nL : Nat} {ret : Option FieldType} {pc : Nat} {lv : List (Nat × Value)} {st : List Value} {σ : zSt} (C : zCx G p s m args meth c "VillageWaves" cc nL ret) {g o : Nat} {fs : List Value} {v : Value} (hlive : (g, o) ∈ zL G) (he : zct G σ g o = .inr (1, fs)) (hv : fs[7]? = some v) (d : decode cc pc = .ok (.getfield 114, 3)) (kk : zWV G p l e R s m args below meth c nL cells slots Q (pc + 3) lv (v :: st) σ) : zWV G p l e R s m args below meth c nL cells slots Q pc lv (.ref (zad G g o) :: st) σ :=
  z_getN C zin_1 rfl 7 (by decide) zp175 rfl hlive he hv d kk
theorem kl_Waves_117 : zLV "VillageWaves" 117 "VillageWaves$Homes" y_Homes_addToBattery b_Homes_addToBattery 3 none 2 := ⟨zq911, zq701, zq702, zq98, zq703, rfl, ⟨by decide, by decide, by decide +kernel⟩⟩
theorem gf_Waves_120 {G : zLA} {p : Program} {l : Launch} {e : Env} {R : Room} {s : State} {m : MethodId} {args : Array Value} {below : List Frame} {meth : Method} {c : Code} {cells slots : Nat} {Q : State → Prop} {cc : ByteArray} {nL : Nat} {ret : Option FieldType} {pc : Nat} {lv : List (Nat × Value)} {st : List Value} {σ : zSt} (C : zCx G p s m args meth c "VillageWaves" cc nL ret) {g o : Nat} {fs : List Value} {v : Value} (hlive : (g, o) ∈ zL G) (he : zct G σ g o = .inr (1, fs)) (hv : fs[4]? = some v) (d : decode cc pc = .ok (.getfield 120, 3)) (kk : zWV G p l e R s m args below meth c nL cells slots Q (pc + 3) lv (v :: st) σ) : zWV G p l e R s m args below meth c nL cells slots Q pc lv (.ref (zad G g o) :: st) σ :=
  z_getN C zin_1 rfl 4 (by decide) zp165 rfl hlive he hv d kk
theorem kl_Waves_123 : zLV "VillageWaves" 123 "VillageWaves$Row" y_Row_get b_Row_get 2 (some .int) 1 := ⟨zq912, zq476, zq477, zq96, zq478, rfl, ⟨by decide, by decide, by decide +kernel⟩⟩
theorem kl_Waves_131 : zLS "VillageWaves" 131 y_Waves_element b_Waves_element 2 (some .int) 2 := ⟨zq921, zq303, zq94, zq304, ⟨by decide, by decide, by decide +kernel⟩⟩
theorem gf_Waves_138 {G : zLA} {p : Program} {l : Launch} {e : Env} {R : Room} {s : State} {m : MethodId} {args : Array Value} {below : List Frame} {meth : Method} {c : Code} {cells slots : Nat} {Q : State → Prop} {cc : ByteArray} {nL : Nat} {ret : Option FieldType} {pc : Nat} {lv : List (Nat × Value)} {st : List Value} {σ : zSt} (C : zCx G p s m args meth c "VillageWaves" cc nL ret) {g o : Nat} {fs : List Value} {v : Value} (hlive : (g, o) ∈ zL G) (he : zct G σ g o = .inr (7, fs)) (hv : fs[4]? = some v) (d : decode cc pc = .ok (.getfield 138, 3)) (kk : zWV G p l e R s m args below meth c nL cells slots Q (pc + 3) lv (v :: st) σ) : zWV G p l e R s m args below meth c nL cells slots Q pc lv (.ref (zad G g o) :: st) σ :=
  z_getN C zin_7 rfl 4 (by decide) zp344 rfl hlive he hv d kk
theorem pf_Waves_142 {G : zLA} {p : Program} {l : Launch} {e : Env} {R : Room} {s : State} {m : MethodId} {args : Array Value} {below : List Frame} {meth : Method} {c : Code} {cells slots : Nat} {Q : State → Prop} {cc : ByteArray} {nL : Nat} {ret : Option FieldType} {pc : Nat} {lv : List (Nat × Value)} {st : List Value} {σ : zSt} (C : zCx G p s m args meth c "VillageWaves" cc nL ret) {g o : Nat} {fs : List Value} {v : Int32} (hlive : (g, o) ∈ zL G) (he : zct G σ g o = .inr (7, fs)) (hl0 : 2 < fs.length) (hset : zshp G g o (upd (σ.1 g o) 2 v) (σ.2.1 o) (σ.2.2 o) = .inr (7, fs.set 2 (.int v))) (d : decode cc pc = .ok (.putfield 142, 3)) (kk : zWV G p l e R s m args below meth c nL cells slots Q (pc + 3) lv st (zst σ g o 2 v)) : zWV G p l e R s m args below meth c nL cells slots Q pc lv (.int v :: .ref (zad G g o) :: st) σ :=
  z_putN C zin_7 zy7 zn7 rfl 2 (by decide) zp339 rfl rfl rfl hlive he hl0 hset d kk
theorem gf_Waves_145 {G : zLA} {p : Program} {l : Launch} {e : Env} {R : Room} {s : State} {m : MethodId} {args : Array Value} {below : List Frame} {meth : Method} {c : Code} {cells slots : Nat} {Q : State → Prop} {cc : ByteArray} {nL : Nat} {ret : Option FieldType} {pc : Nat} {lv : List (Nat × Value)} {st : List Value} {σ : zSt} (C : zCx G p s m args meth c "VillageWaves" cc nL ret) {g o : Nat} {fs : List Value} {v : Value} (hlive : (g, o) ∈ zL G) (he : zct G σ g o = .inr (7, fs)) (hv : fs[6]? = some v) (d : decode cc pc = .ok (.getfield 145, 3)) (kk : zWV G p l e R s m args below meth c nL cells slots Q (pc + 3) lv (v :: st) σ) : zWV G p l e R s m args below meth c nL cells slots Q pc lv (.ref (zad G g o) :: st) σ :=
  z_getN C zin_7 rfl 6 (by decide) zp350 rfl hlive he hv d kk
theorem gf_Waves_149 {G : zLA} {p : Program} {l : Launch} {e : Env} {R : Room} {s : State} {m : MethodId} {args : Array Value} {below : List Frame} {meth : Method} {c : Code} {cells slots : Nat} {Q : State → Prop} {cc : ByteArray} {nL : Nat} {ret : Option FieldType} {pc : Nat} {lv : List (Nat × Value)} {st : List Value} {σ : zSt} (C : zCx G p s m args meth c "VillageWaves" cc nL ret) {g o : Nat} {fs : List Value} {v : Value} (hlive : (g, o) ∈ zL G) (he : zct G σ g o = .inr (6, fs)) (hv : fs[0]? = some v) (d : decode cc pc = .ok (.getfield 149, 3)) (kk : zWV G p l e R s m args below meth c nL cells slots Q (pc + 3) lv (v :: st) σ) : zWV G p l e R s m args below meth c nL cells slots Q pc lv (.ref (zad G g o) :: st) σ :=
  z_getN C zin_6 rfl 0 (by decide) zp218 rfl hlive he hv d kk
theorem gf_Waves_152 {G : zLA} {p : Program} {l : Launch} {e : Env} {R : Room} {s : State} {m : MethodId} {args : Array Value} {below : List Frame} {meth : Method} {c : Code} {cells slots : Nat} {Q : State → Prop} {cc : ByteArray} {nL : Nat} {ret : Option FieldType} {pc : Nat} {lv : List (Nat × Value)} {st : List Value} {σ : zSt} (C : zCx G p s m args meth c "VillageWaves" cc nL ret) {g o : Nat} {fs : List Value} {v : Value} (hlive : (g, o) ∈ zL G) (he : zct G σ g o = .inr (7, fs)) (hv : fs[1]? = some v) (d : decode cc pc = .ok (.getfield 152, 3)) (kk : zWV G p l e R s m args below meth c nL cells slots Q (pc + 3) lv (v :: st) σ) : zWV G p l e R s m args below meth c nL cells slots Q pc lv (.ref (zad G g o) :: st) σ :=
  z_getN C zin_7 rfl 1 (by decide) zp336 rfl hlive he hv d kk
theorem gf_Waves_142 {G : zLA} {p : Program} {l : Launch} {e : Env} {R : Room} {s : State} {m : MethodId} {args : Array Value} {below : List Frame} {meth : Method} {c : Code} {cells slots : Nat} {Q : State → Prop} {cc : ByteArray} {nL : Nat} {ret : Option FieldType} {pc : Nat} {lv : List (Nat × Value)} {st : List Value} {σ : zSt} (C : zCx G p s m args meth c "VillageWaves" cc nL ret) {g o : Nat} {fs : List Value} {v : Value} (hlive : (g, o) ∈ zL G) (he : zct G σ g o = .inr (7, fs)) (hv : fs[2]? = some v) (d : decode cc pc = .ok (.getfield 142, 3)) (kk : zWV G p l e R s m args below meth c nL cells slots Q (pc + 3) lv (v :: st) σ) : zWV G p l e R s m args below meth c nL cells slots Q pc lv (.ref (zad G g o) :: st) σ :=
  z_getN C zin_7 rfl 2 (by decide) zp339 rfl hlive he hv d kk
theorem gf_Waves_155 {G : zLA} {p : Program} {l : Launch} {e : Env} {R : Room} {s : State} {m : MethodId} {args : Array Value} {below : List Frame} {meth : Method} {c : Code} {cells slots : Nat} {Q : State → Prop} {cc : ByteArray} {nL : Nat} {ret : Option FieldType} {pc : Nat} {lv : List (Nat × Value)} {st : List Value} {σ : zSt} (C : zCx G p s m args meth c "VillageWaves" cc nL ret) {g o : Nat} {fs : List Value} {v : Value} (hlive : (g, o) ∈ zL G) (he : zct G σ g o = .inr (7, fs)) (hv : fs[12]? = some v) (d : decode cc pc = .ok (.getfield 155, 3)) (kk : zWV G p l e R s m args below meth c nL cells slots Q (pc + 3) lv (v :: st) σ) : zWV G p l e R s m args below meth c nL cells slots Q pc lv (.ref (zad G g o) :: st) σ :=
  z_getN C zin_7 rfl 12 (by decide) zp361 rfl hlive he hv d kk
theorem gf_Waves_159 {G : zLA} {p : Program} {l : Launch} {e : Env} {R : Room} {s : State} {m : MethodId} {args : Array Value} {below : List Frame} {meth : Method} {c : Code} {cells slots : Nat} {Q : State → Prop} {cc : ByteArray} {nL : Nat} {ret : Option FieldType} {pc : Nat} {lv : List (Nat × Value)} {st : List Value} {σ : zSt} (C : zCx G p s m args meth c "VillageWaves" cc nL ret) {g o : Nat} {fs : List Value} {v : Value} (hlive : (g, o) ∈ zL G) (he : zct G σ g o = .inr (2, fs)) (hv : fs[0]? = some v) (d : decode cc pc = .ok (.getfield 159, 3)) (kk : zWV G p l e R s m args below meth c nL cells slots Q (pc + 3) lv (v :: st) σ) : zWV G p l e R s m args below meth c nL cells slots Q pc lv (.ref (zad G g o) :: st) σ :=
  z_getN C zin_2 rfl 0 (by decide) zp289 rfl hlive he hv d kk
theorem kl_Waves_164 : zLV "VillageWaves" 164 "VillageWaves$Village" y_Village_minuteOfDay b_Village_minuteOfDay 1 (some .int) 0 := ⟨zq938, zq692, zq693, zq95, zq694, rfl, ⟨by decide, by decide, by decide +kernel⟩⟩
theorem kl_Waves_168 : zLV "VillageWaves" 168 "VillageWaves$Homes" y_Homes_quietAt b_Homes_quietAt 4 (some .int) 1 := ⟨zq939, zq940, zq941, zq98, zq942, rfl, ⟨by decide, by decide, by decide +kernel⟩⟩
theorem kl_Waves_171 : zLV "VillageWaves" 171 "VillageWaves$Tidings" y_Tidings_correctedNumber b_Tidings_correctedNumber 3 (some .int) 0 := ⟨zq945, zq946, zq947, zq99, zq948, rfl, ⟨by decide, by decide, by decide +kernel⟩⟩
theorem gf_Waves_174 {G : zLA} {p : Program} {l : Launch} {e : Env} {R : Room} {s : State} {m : MethodId} {args : Array Value} {below : List Frame} {meth : Method} {c : Code} {cells slots : Nat} {Q : State → Prop} {cc : ByteArray} {nL : Nat} {ret : Option FieldType} {pc : Nat} {lv : List (Nat × Value)} {st : List Value} {σ : zSt} (C : zCx G p s m args meth c "VillageWaves" cc nL ret) {g o : Nat} {fs : List Value} {v : Value} (hlive : (g, o) ∈ zL G) (he : zct G σ g o = .inr (7, fs)) (hv : fs[7]? = some v) (d : decode cc pc = .ok (.getfield 174, 3)) (kk : zWV G p l e R s m args below meth c nL cells slots Q (pc + 3) lv (v :: st) σ) : zWV G p l e R s m args below meth c nL cells slots Q pc lv (.ref (zad G g o) :: st) σ :=
  z_getN C zin_7 rfl 7 (by decide) zp352 rfl hlive he hv d kk
theorem kl_Waves_178 : zLV "VillageWaves" 178 "VillageWaves$Entries" y_Entries_total b_Entries_total 3 (some .int) 0 := ⟨zq954, zq955, zq956, zq100, zq957, rfl, ⟨by decide, by decide, by decide +kernel⟩⟩
theorem gf_Waves_182 {G : zLA} {p : Program} {l : Launch} {e : Env} {R : Room} {s : State} {m : MethodId} {args : Array Value} {below : List Frame} {meth : Method} {c : Code} {cells slots : Nat} {Q : State → Prop} {cc : ByteArray} {nL : Nat} {ret : Option FieldType} {pc : Nat} {lv : List (Nat × Value)} {st : List Value} {σ : zSt} (C : zCx G p s m args meth c "VillageWaves" cc nL ret) {g o : Nat} {fs : List Value} {v : Value} (hlive : (g, o) ∈ zL G) (he : zct G σ g o = .inr (7, fs)) (hv : fs[8]? = some v) (d : decode cc pc = .ok (.getfield 182, 3)) (kk : zWV G p l e R s m args below meth c nL cells slots Q (pc + 3) lv (v :: st) σ) : zWV G p l e R s m args below meth c nL cells slots Q pc lv (.ref (zad G g o) :: st) σ :=
  z_getN C zin_7 rfl 8 (by decide) zp354 rfl hlive he hv d kk
theorem gf_Waves_185 {G : zLA} {p : Program} {l : Launch} {e : Env} {R : Room} {s : State} {m : MethodId} {args : Array Value} {below : List Frame} {meth : Method} {c : Code} {cells slots : Nat} {Q : State → Prop} {cc : ByteArray} {nL : Nat} {ret : Option FieldType} {pc : Nat} {lv : List (Nat × Value)} {st : List Value} {σ : zSt} (C : zCx G p s m args meth c "VillageWaves" cc nL ret) {g o : Nat} {fs : List Value} {v : Value} (hlive : (g, o) ∈ zL G) (he : zct G σ g o = .inr (1, fs)) (hv : fs[1]? = some v) (d : decode cc pc = .ok (.getfield 185, 3)) (kk : zWV G p l e R s m args below meth c nL cells slots Q (pc + 3) lv (v :: st) σ) : zWV G p l e R s m args below meth c nL cells slots Q pc lv (.ref (zad G g o) :: st) σ :=
  z_getN C zin_1 rfl 1 (by decide) zp159 rfl hlive he hv d kk
theorem gf_Waves_188 {G : zLA} {p : Program} {l : Launch} {e : Env} {R : Room} {s : State} {m : MethodId} {args : Array Value} {below : List Frame} {meth : Method} {c : Code} {cells slots : Nat} {Q : State → Prop} {cc : ByteArray} {nL : Nat} {ret : Option FieldType} {pc : Nat} {lv : List (Nat × Value)} {st : List Value} {σ : zSt} (C : zCx G p s m args meth c "VillageWaves" cc nL ret) {g o : Nat} {fs : List Value} {v : Value} (hlive : (g, o) ∈ zL G) (he : zct G σ g o = .inr (1, fs)) (hv : fs[2]? = some v) (d : decode cc pc = .ok (.getfield 188, 3)) (kk : zWV G p l e R s m args below meth c nL cells slots Q (pc + 3) lv (v :: st) σ) : zWV G p l e R s m args below meth c nL cells slots Q pc lv (.ref (zad G g o) :: st) σ :=
  z_getN C zin_1 rfl 2 (by decide) zp161 rfl hlive he hv d kk
theorem gf_Waves_191 {G : zLA} {p : Program} {l : Launch} {e : Env} {R : Room} {s : State} {m : MethodId} {args : Array Value} {below : List Frame} {meth : Method} {c : Code} {cells slots : Nat} {Q : State → Prop} {cc : ByteArray} {nL : Nat} {ret : Option FieldType} {pc : Nat} {lv : List (Nat × Value)} {st : List Value} {σ : zSt} (C : zCx G p s m args meth c "VillageWaves" cc nL ret) {g o : Nat} {fs : List Value} {v : Value} (hlive : (g, o) ∈ zL G) (he : zct G σ g o = .inr (1, fs)) (hv : fs[3]? = some v) (d : decode cc pc = .ok (.getfield 191, 3)) (kk : zWV G p l e R s m args below meth c nL cells slots Q (pc + 3) lv (v :: st) σ) : zWV G p l e R s m args below meth c nL cells slots Q pc lv (.ref (zad G g o) :: st) σ :=
  z_getN C zin_1 rfl 3 (by decide) zp163 rfl hlive he hv d kk
theorem gf_Waves_194 {G : zLA} {p : Program} {l : Launch} {e : Env} {R : Room} {s : State} {m : MethodId} {args : Array Value} {below : List Frame} {meth : Method} {c : Code} {cells slots : Nat} {Q : State → Prop} {cc : ByteArray} {nL : Nat} {ret : Option FieldType} {pc : Nat} {lv : List (Nat × Value)} {st : List Value} {σ : zSt} (C : zCx G p s m args meth c "VillageWaves" cc nL ret) {g o : Nat} {fs : List Value} {v : Value} (hlive : (g, o) ∈ zL G) (he : zct G σ g o = .inr (1, fs)) (hv : fs[5]? = some v) (d : decode cc pc = .ok (.getfield 194, 3)) (kk : zWV G p l e R s m args below meth c nL cells slots Q (pc + 3) lv (v :: st) σ) : zWV G p l e R s m args below meth c nL cells slots Q pc lv (.ref (zad G g o) :: st) σ :=
  z_getN C zin_1 rfl 5 (by decide) zp168 rfl hlive he hv d kk
theorem kl_Waves_197 : zLV "VillageWaves" 197 "VillageWaves$Homes" y_Homes_isQuiet b_Homes_isQuiet 5 (some .boolean) 2 := ⟨zq976, zq727, zq728, zq98, zq729, rfl, ⟨by decide, by decide, by decide +kernel⟩⟩
theorem gf_Waves_201 {G : zLA} {p : Program} {l : Launch} {e : Env} {R : Room} {s : State} {m : MethodId} {args : Array Value} {below : List Frame} {meth : Method} {c : Code} {cells slots : Nat} {Q : State → Prop} {cc : ByteArray} {nL : Nat} {ret : Option FieldType} {pc : Nat} {lv : List (Nat × Value)} {st : List Value} {σ : zSt} (C : zCx G p s m args meth c "VillageWaves" cc nL ret) {g o : Nat} {fs : List Value} {v : Value} (hlive : (g, o) ∈ zL G) (he : zct G σ g o = .inr (1, fs)) (hv : fs[8]? = some v) (d : decode cc pc = .ok (.getfield 201, 3)) (kk : zWV G p l e R s m args below meth c nL cells slots Q (pc + 3) lv (v :: st) σ) : zWV G p l e R s m args below meth c nL cells slots Q pc lv (.ref (zad G g o) :: st) σ :=
  z_getN C zin_1 rfl 8 (by decide) zp178 rfl hlive he hv d kk
theorem gf_Waves_204 {G : zLA} {p : Program} {l : Launch} {e : Env} {R : Room} {s : State} {m : MethodId} {args : Array Value} {below : List Frame} {meth : Method} {c : Code} {cells slots : Nat} {Q : State → Prop} {cc : ByteArray} {nL : Nat} {ret : Option FieldType} {pc : Nat} {lv : List (Nat × Value)} {st : List Value} {σ : zSt} (C : zCx G p s m args meth c "VillageWaves" cc nL ret) {g o : Nat} {fs : List Value} {v : Value} (hlive : (g, o) ∈ zL G) (he : zct G σ g o = .inr (1, fs)) (hv : fs[9]? = some v) (d : decode cc pc = .ok (.getfield 204, 3)) (kk : zWV G p l e R s m args below meth c nL cells slots Q (pc + 3) lv (v :: st) σ) : zWV G p l e R s m args below meth c nL cells slots Q pc lv (.ref (zad G g o) :: st) σ :=
  z_getN C zin_1 rfl 9 (by decide) zp180 rfl hlive he hv d kk
theorem kl_Waves_207 : zLV "VillageWaves" 207 "VillageWaves$Tidings" y_Tidings_newsKnownAt b_Tidings_newsKnownAt 4 (some .int) 1 := ⟨zq977, zq978, zq979, zq99, zq980, rfl, ⟨by decide, by decide, by decide +kernel⟩⟩
theorem kl_Waves_210 : zLV "VillageWaves" 210 "VillageWaves$Tidings" y_Tidings_correctionsKnownAt b_Tidings_correctionsKnownAt 4 (some .int) 1 := ⟨zq982, zq983, zq984, zq99, zq985, rfl, ⟨by decide, by decide, by decide +kernel⟩⟩
theorem kl_Waves_213 : zLV "VillageWaves" 213 "VillageWaves$Tidings" y_Tidings_uncorrectedAt b_Tidings_uncorrectedAt 4 (some .int) 1 := ⟨zq986, zq987, zq988, zq99, zq989, rfl, ⟨by decide, by decide, by decide +kernel⟩⟩
theorem kl_Waves_216 : zLV "VillageWaves" 216 "VillageWaves$Entries" y_Entries_size b_Entries_size 2 (some .int) 1 := ⟨zq994, zq959, zq960, zq100, zq961, rfl, ⟨by decide, by decide, by decide +kernel⟩⟩
theorem gf_Waves_219 {G : zLA} {p : Program} {l : Launch} {e : Env} {R : Room} {s : State} {m : MethodId} {args : Array Value} {below : List Frame} {meth : Method} {c : Code} {cells slots : Nat} {Q : State → Prop} {cc : ByteArray} {nL : Nat} {ret : Option FieldType} {pc : Nat} {lv : List (Nat × Value)} {st : List Value} {σ : zSt} (C : zCx G p s m args meth c "VillageWaves" cc nL ret) {g o : Nat} {fs : List Value} {v : Value} (hlive : (g, o) ∈ zL G) (he : zct G σ g o = .inr (1, fs)) (hv : fs[10]? = some v) (d : decode cc pc = .ok (.getfield 219, 3)) (kk : zWV G p l e R s m args below meth c nL cells slots Q (pc + 3) lv (v :: st) σ) : zWV G p l e R s m args below meth c nL cells slots Q pc lv (.ref (zad G g o) :: st) σ :=
  z_getN C zin_1 rfl 10 (by decide) zp184 rfl hlive he hv d kk
theorem kl_Waves_357 : zLV "VillageWaves" 357 "VillageWaves$Entries" y_Entries_time b_Entries_time 3 (some .int) 2 := ⟨zq1021, zq1012, zq1013, zq100, zq1014, rfl, ⟨by decide, by decide, by decide +kernel⟩⟩
theorem kl_Waves_359 : zLV "VillageWaves" 359 "VillageWaves$Village" y_Village_sendableCorrections b_Village_sendableCorrections 6 (some .int) 1 := ⟨zq1022, zq711, zq712, zq95, zq713, rfl, ⟨by decide, by decide, by decide +kernel⟩⟩
theorem kl_Waves_289 : zLS "VillageWaves" 289 y_Waves_contains b_Waves_contains 2 (some .boolean) 2 := ⟨zq1023, zq715, zq94, zq716, ⟨by decide, by decide, by decide +kernel⟩⟩
theorem gf_Waves_362 {G : zLA} {p : Program} {l : Launch} {e : Env} {R : Room} {s : State} {m : MethodId} {args : Array Value} {below : List Frame} {meth : Method} {c : Code} {cells slots : Nat} {Q : State → Prop} {cc : ByteArray} {nL : Nat} {ret : Option FieldType} {pc : Nat} {lv : List (Nat × Value)} {st : List Value} {σ : zSt} (C : zCx G p s m args meth c "VillageWaves" cc nL ret) {g o : Nat} {fs : List Value} {v : Value} (hlive : (g, o) ∈ zL G) (he : zct G σ g o = .inr (7, fs)) (hv : fs[9]? = some v) (d : decode cc pc = .ok (.getfield 362, 3)) (kk : zWV G p l e R s m args below meth c nL cells slots Q (pc + 3) lv (v :: st) σ) : zWV G p l e R s m args below meth c nL cells slots Q pc lv (.ref (zad G g o) :: st) σ :=
  z_getN C zin_7 rfl 9 (by decide) zp356 rfl hlive he hv d kk
theorem kl_Waves_274 : zLS "VillageWaves" 274 y_Waves_cell b_Waves_cell 2 (some .int) 2 := ⟨zq1028, zq629, zq94, zq630, ⟨by decide, by decide, by decide +kernel⟩⟩
theorem kl_Waves_227 : zLV "VillageWaves" 227 "VillageWaves$Entries" y_Entries_at b_Entries_at 5 (some .int) 2 := ⟨zq1003, zq1004, zq1005, zq100, zq1006, rfl, ⟨by decide, by decide, by decide +kernel⟩⟩
theorem kl_Waves_235 : zLV "VillageWaves" 235 "VillageWaves" y_Waves_newsEntryFact b_Waves_newsEntryFact 4 (some .int) 3 := ⟨zq1024, zq1026, zq16, zq94, zq1027, rfl, ⟨by decide, by decide, by decide +kernel⟩⟩
theorem kl_Waves_231 : zLV "VillageWaves" 231 "VillageWaves" y_Waves_correctionEntryFact b_Waves_correctionEntryFact 4 (some .int) 3 := ⟨zq1017, zq1019, zq15, zq94, zq1020, rfl, ⟨by decide, by decide, by decide +kernel⟩⟩
theorem kl_Waves_238 : zLV "VillageWaves" 238 "VillageWaves" y_Waves_checkNews b_Waves_checkNews 2 none 1 := ⟨zq1036, zq1038, zq17, zq94, zq1039, rfl, ⟨by decide, by decide, by decide +kernel⟩⟩
theorem gf_Waves_241 {G : zLA} {p : Program} {l : Launch} {e : Env} {R : Room} {s : State} {m : MethodId} {args : Array Value} {below : List Frame} {meth : Method} {c : Code} {cells slots : Nat} {Q : State → Prop} {cc : ByteArray} {nL : Nat} {ret : Option FieldType} {pc : Nat} {lv : List (Nat × Value)} {st : List Value} {σ : zSt} (C : zCx G p s m args meth c "VillageWaves" cc nL ret) {g o : Nat} {fs : List Value} {v : Value} (hlive : (g, o) ∈ zL G) (he : zct G σ g o = .inr (6, fs)) (hv : fs[1]? = some v) (d : decode cc pc = .ok (.getfield 241, 3)) (kk : zWV G p l e R s m args below meth c nL cells slots Q (pc + 3) lv (v :: st) σ) : zWV G p l e R s m args below meth c nL cells slots Q pc lv (.ref (zad G g o) :: st) σ :=
  z_getN C zin_6 rfl 1 (by decide) zp220 rfl hlive he hv d kk
theorem gf_Waves_244 {G : zLA} {p : Program} {l : Launch} {e : Env} {R : Room} {s : State} {m : MethodId} {args : Array Value} {below : List Frame} {meth : Method} {c : Code} {cells slots : Nat} {Q : State → Prop} {cc : ByteArray} {nL : Nat} {ret : Option FieldType} {pc : Nat} {lv : List (Nat × Value)} {st : List Value} {σ : zSt} (C : zCx G p s m args meth c "VillageWaves" cc nL ret) {g o : Nat} {fs : List Value} {v : Value} (hlive : (g, o) ∈ zL G) (he : zct G σ g o = .inr (6, fs)) (hv : fs[2]? = some v) (d : decode cc pc = .ok (.getfield 244, 3)) (kk : zWV G p l e R s m args below meth c nL cells slots Q (pc + 3) lv (v :: st) σ) : zWV G p l e R s m args below meth c nL cells slots Q pc lv (.ref (zad G g o) :: st) σ :=
  z_getN C zin_6 rfl 2 (by decide) zp222 rfl hlive he hv d kk
theorem gf_Waves_247 {G : zLA} {p : Program} {l : Launch} {e : Env} {R : Room} {s : State} {m : MethodId} {args : Array Value} {below : List Frame} {meth : Method} {c : Code} {cells slots : Nat} {Q : State → Prop} {cc : ByteArray} {nL : Nat} {ret : Option FieldType} {pc : Nat} {lv : List (Nat × Value)} {st : List Value} {σ : zSt} (C : zCx G p s m args meth c "VillageWaves" cc nL ret) {g o : Nat} {fs : List Value} {v : Value} (hlive : (g, o) ∈ zL G) (he : zct G σ g o = .inr (6, fs)) (hv : fs[3]? = some v) (d : decode cc pc = .ok (.getfield 247, 3)) (kk : zWV G p l e R s m args below meth c nL cells slots Q (pc + 3) lv (v :: st) σ) : zWV G p l e R s m args below meth c nL cells slots Q pc lv (.ref (zad G g o) :: st) σ :=
  z_getN C zin_6 rfl 3 (by decide) zp224 rfl hlive he hv d kk
theorem gf_Waves_250 {G : zLA} {p : Program} {l : Launch} {e : Env} {R : Room} {s : State} {m : MethodId} {args : Array Value} {below : List Frame} {meth : Method} {c : Code} {cells slots : Nat} {Q : State → Prop} {cc : ByteArray} {nL : Nat} {ret : Option FieldType} {pc : Nat} {lv : List (Nat × Value)} {st : List Value} {σ : zSt} (C : zCx G p s m args meth c "VillageWaves" cc nL ret) {g o : Nat} {fs : List Value} {v : Value} (hlive : (g, o) ∈ zL G) (he : zct G σ g o = .inr (6, fs)) (hv : fs[4]? = some v) (d : decode cc pc = .ok (.getfield 250, 3)) (kk : zWV G p l e R s m args below meth c nL cells slots Q (pc + 3) lv (v :: st) σ) : zWV G p l e R s m args below meth c nL cells slots Q pc lv (.ref (zad G g o) :: st) σ :=
  z_getN C zin_6 rfl 4 (by decide) zp227 rfl hlive he hv d kk
theorem gf_Waves_253 {G : zLA} {p : Program} {l : Launch} {e : Env} {R : Room} {s : State} {m : MethodId} {args : Array Value} {below : List Frame} {meth : Method} {c : Code} {cells slots : Nat} {Q : State → Prop} {cc : ByteArray} {nL : Nat} {ret : Option FieldType} {pc : Nat} {lv : List (Nat × Value)} {st : List Value} {σ : zSt} (C : zCx G p s m args meth c "VillageWaves" cc nL ret) {g o : Nat} {fs : List Value} {v : Value} (hlive : (g, o) ∈ zL G) (he : zct G σ g o = .inr (6, fs)) (hv : fs[5]? = some v) (d : decode cc pc = .ok (.getfield 253, 3)) (kk : zWV G p l e R s m args below meth c nL cells slots Q (pc + 3) lv (v :: st) σ) : zWV G p l e R s m args below meth c nL cells slots Q pc lv (.ref (zad G g o) :: st) σ :=
  z_getN C zin_6 rfl 5 (by decide) zp230 rfl hlive he hv d kk
theorem gf_Waves_256 {G : zLA} {p : Program} {l : Launch} {e : Env} {R : Room} {s : State} {m : MethodId} {args : Array Value} {below : List Frame} {meth : Method} {c : Code} {cells slots : Nat} {Q : State → Prop} {cc : ByteArray} {nL : Nat} {ret : Option FieldType} {pc : Nat} {lv : List (Nat × Value)} {st : List Value} {σ : zSt} (C : zCx G p s m args meth c "VillageWaves" cc nL ret) {g o : Nat} {fs : List Value} {v : Value} (hlive : (g, o) ∈ zL G) (he : zct G σ g o = .inr (6, fs)) (hv : fs[6]? = some v) (d : decode cc pc = .ok (.getfield 256, 3)) (kk : zWV G p l e R s m args below meth c nL cells slots Q (pc + 3) lv (v :: st) σ) : zWV G p l e R s m args below meth c nL cells slots Q pc lv (.ref (zad G g o) :: st) σ :=
  z_getN C zin_6 rfl 6 (by decide) zp233 rfl hlive he hv d kk
theorem gf_Waves_259 {G : zLA} {p : Program} {l : Launch} {e : Env} {R : Room} {s : State} {m : MethodId} {args : Array Value} {below : List Frame} {meth : Method} {c : Code} {cells slots : Nat} {Q : State → Prop} {cc : ByteArray} {nL : Nat} {ret : Option FieldType} {pc : Nat} {lv : List (Nat × Value)} {st : List Value} {σ : zSt} (C : zCx G p s m args meth c "VillageWaves" cc nL ret) {g o : Nat} {fs : List Value} {v : Value} (hlive : (g, o) ∈ zL G) (he : zct G σ g o = .inr (6, fs)) (hv : fs[7]? = some v) (d : decode cc pc = .ok (.getfield 259, 3)) (kk : zWV G p l e R s m args below meth c nL cells slots Q (pc + 3) lv (v :: st) σ) : zWV G p l e R s m args below meth c nL cells slots Q pc lv (.ref (zad G g o) :: st) σ :=
  z_getN C zin_6 rfl 7 (by decide) zp235 rfl hlive he hv d kk
theorem gf_Waves_262 {G : zLA} {p : Program} {l : Launch} {e : Env} {R : Room} {s : State} {m : MethodId} {args : Array Value} {below : List Frame} {meth : Method} {c : Code} {cells slots : Nat} {Q : State → Prop} {cc : ByteArray} {nL : Nat} {ret : Option FieldType} {pc : Nat} {lv : List (Nat × Value)} {st : List Value} {σ : zSt} (C : zCx G p s m args meth c "VillageWaves" cc nL ret) {g o : Nat} {fs : List Value} {v : Value} (hlive : (g, o) ∈ zL G) (he : zct G σ g o = .inr (6, fs)) (hv : fs[8]? = some v) (d : decode cc pc = .ok (.getfield 262, 3)) (kk : zWV G p l e R s m args below meth c nL cells slots Q (pc + 3) lv (v :: st) σ) : zWV G p l e R s m args below meth c nL cells slots Q pc lv (.ref (zad G g o) :: st) σ :=
  z_getN C zin_6 rfl 8 (by decide) zp239 rfl hlive he hv d kk
theorem kl_Waves_265 : zLV "VillageWaves" 265 "VillageWaves$Tidings" y_Tidings_uncorrectedHouses b_Tidings_uncorrectedHouses 2 (some .int) 1 := ⟨zq1041, zq991, zq992, zq99, zq993, rfl, ⟨by decide, by decide, by decide +kernel⟩⟩
theorem gf_Waves_268 {G : zLA} {p : Program} {l : Launch} {e : Env} {R : Room} {s : State} {m : MethodId} {args : Array Value} {below : List Frame} {meth : Method} {c : Code} {cells slots : Nat} {Q : State → Prop} {cc : ByteArray} {nL : Nat} {ret : Option FieldType} {pc : Nat} {lv : List (Nat × Value)} {st : List Value} {σ : zSt} (C : zCx G p s m args meth c "VillageWaves" cc nL ret) {g o : Nat} {fs : List Value} {v : Value} (hlive : (g, o) ∈ zL G) (he : zct G σ g o = .inr (6, fs)) (hv : fs[9]? = some v) (d : decode cc pc = .ok (.getfield 268, 3)) (kk : zWV G p l e R s m args below meth c nL cells slots Q (pc + 3) lv (v :: st) σ) : zWV G p l e R s m args below meth c nL cells slots Q pc lv (.ref (zad G g o) :: st) σ :=
  z_getN C zin_6 rfl 9 (by decide) zp241 rfl hlive he hv d kk
theorem gf_Waves_271 {G : zLA} {p : Program} {l : Launch} {e : Env} {R : Room} {s : State} {m : MethodId} {args : Array Value} {below : List Frame} {meth : Method} {c : Code} {cells slots : Nat} {Q : State → Prop} {cc : ByteArray} {nL : Nat} {ret : Option FieldType} {pc : Nat} {lv : List (Nat × Value)} {st : List Value} {σ : zSt} (C : zCx G p s m args meth c "VillageWaves" cc nL ret) {g o : Nat} {fs : List Value} {v : Value} (hlive : (g, o) ∈ zL G) (he : zct G σ g o = .inr (7, fs)) (hv : fs[10]? = some v) (d : decode cc pc = .ok (.getfield 271, 3)) (kk : zWV G p l e R s m args below meth c nL cells slots Q (pc + 3) lv (v :: st) σ) : zWV G p l e R s m args below meth c nL cells slots Q pc lv (.ref (zad G g o) :: st) σ :=
  z_getN C zin_7 rfl 10 (by decide) zp358 rfl hlive he hv d kk
theorem kl_Waves_277 : zLV "VillageWaves" 277 "VillageWaves$Village" y_Village_owedBy b_Village_owedBy 4 (some .int) 2 := ⟨zq1056, zq718, zq719, zq95, zq720, rfl, ⟨by decide, by decide, by decide +kernel⟩⟩
theorem kl_Waves_282 : zLV "VillageWaves" 282 "VillageWaves$Journal" y_Journal_fact b_Journal_fact 3 (some .int) 2 := ⟨zq1065, zq1066, zq1067, zq101, zq1068, rfl, ⟨by decide, by decide, by decide +kernel⟩⟩
theorem kl_Waves_285 : zLV "VillageWaves" 285 "VillageWaves$Tidings" y_Tidings_isFull b_Tidings_isFull 1 (some .boolean) 0 := ⟨zq1077, zq613, zq614, zq99, zq615, rfl, ⟨by decide, by decide, by decide +kernel⟩⟩
theorem kl_Waves_286 : zLV "VillageWaves" 286 "VillageWaves$Village" y_Village_addNews b_Village_addNews 5 (some .int) 2 := ⟨zq1078, zq617, zq618, zq95, zq619, rfl, ⟨by decide, by decide, by decide +kernel⟩⟩
theorem kl_Waves_292 : zLV "VillageWaves" 292 "VillageWaves$Tidings" y_Tidings_isCorrected b_Tidings_isCorrected 2 (some .boolean) 1 := ⟨zq1086, zq950, zq951, zq99, zq952, rfl, ⟨by decide, by decide, by decide +kernel⟩⟩
theorem kl_Waves_296 : zLV "VillageWaves" 296 "VillageWaves$Village" y_Village_addCorrection b_Village_addCorrection 4 none 3 := ⟨zq1087, zq1088, zq1089, zq95, zq1090, rfl, ⟨by decide, by decide, by decide +kernel⟩⟩
theorem kl_Waves_299 : zLS "VillageWaves" 299 y_Integer_bitCount b_Integer_bitCount 1 (some .int) 1 := ⟨zq1104, zq964, zq117, zq965, ⟨by decide, by decide, by decide +kernel⟩⟩
theorem kl_Waves_304 : zLV "VillageWaves" 304 "VillageWaves$Village" y_Village_pass b_Village_pass 3 none 1 := ⟨zq1112, zq1113, zq1114, zq95, zq1115, rfl, ⟨by decide, by decide, by decide +kernel⟩⟩
theorem kl_Waves_351 : zLV "VillageWaves" 351 "VillageWaves$Village" y_Village_beginDay b_Village_beginDay 1 none 0 := ⟨zq687, zq688, zq689, zq95, zq690, rfl, ⟨by decide, by decide, by decide +kernel⟩⟩
theorem kl_Waves_354 : zLV "VillageWaves" 354 "VillageWaves$Village" y_Village_wishing b_Village_wishing 5 (some .int) 0 := ⟨zq706, zq707, zq708, zq95, zq709, rfl, ⟨by decide, by decide, by decide +kernel⟩⟩
theorem kl_Waves_307 : zLV "VillageWaves" 307 "VillageWaves" y_Waves_wishingInDraft b_Waves_wishingInDraft 1 (some .int) 0 := ⟨zq683, zq685, zq10, zq94, zq686, rfl, ⟨by decide, by decide, by decide +kernel⟩⟩
theorem kl_Waves_310 : zLV "VillageWaves" 310 "VillageWaves$Village" y_Village_drawnOf b_Village_drawnOf 4 (some .int) 1 := ⟨zq734, zq735, zq736, zq95, zq737, rfl, ⟨by decide, by decide, by decide +kernel⟩⟩
theorem kl_Waves_313 : zLV "VillageWaves" 313 "VillageWaves$Homes" y_Homes_sharesOf b_Homes_sharesOf 4 (some .int) 1 := ⟨zq1166, zq739, zq740, zq98, zq741, rfl, ⟨by decide, by decide, by decide +kernel⟩⟩
theorem kl_Waves_316 : zLV "VillageWaves" 316 "VillageWaves$Homes" y_Homes_nearest b_Homes_nearest 4 (some .int) 2 := ⟨zq1174, zq1175, zq1176, zq98, zq1177, rfl, ⟨by decide, by decide, by decide +kernel⟩⟩
theorem kl_Waves_319 : zLV "VillageWaves" 319 "VillageWaves$Homes" y_Homes_sendings b_Homes_sendings 5 (some .int) 2 := ⟨zq1189, zq1190, zq1191, zq98, zq1192, rfl, ⟨by decide, by decide, by decide +kernel⟩⟩
theorem kl_Waves_323 : zLV "VillageWaves" 323 "VillageWaves$Homes" y_Homes_batterySum b_Homes_batterySum 3 (some .int) 0 := ⟨zq753, zq754, zq755, zq98, zq756, rfl, ⟨by decide, by decide, by decide +kernel⟩⟩
theorem kl_Waves_326 : zLV "VillageWaves" 326 "VillageWaves$Village" y_Village_minute b_Village_minute 6 none 0 := ⟨zq1218, zq1117, zq1118, zq95, zq1119, rfl, ⟨by decide, by decide, by decide +kernel⟩⟩
theorem kl_Waves_329 : zLV "VillageWaves" 329 "VillageWaves" y_Waves_sizesOf b_Waves_sizesOf 5 (some .int) 2 := ⟨zq1226, zq1228, zq26, zq94, zq1229, rfl, ⟨by decide, by decide, by decide +kernel⟩⟩
theorem gf_Waves_333 {G : zLA} {p : Program} {l : Launch} {e : Env} {R : Room} {s : State} {m : MethodId} {args : Array Value} {below : List Frame} {meth : Method} {c : Code} {cells slots : Nat} {Q : State → Prop} {cc : ByteArray} {nL : Nat} {ret : Option FieldType} {pc : Nat} {lv : List (Nat × Value)} {st : List Value} {σ : zSt} (C : zCx G p s m args meth c "VillageWaves" cc nL ret) {g o : Nat} {fs : List Value} {v : Value} (hlive : (g, o) ∈ zL G) (he : zct G σ g o = .inr (7, fs)) (hv : fs[3]? = some v) (d : decode cc pc = .ok (.getfield 333, 3)) (kk : zWV G p l e R s m args below meth c nL cells slots Q (pc + 3) lv (v :: st) σ) : zWV G p l e R s m args below meth c nL cells slots Q pc lv (.ref (zad G g o) :: st) σ :=
  z_getN C zin_7 rfl 3 (by decide) zp341 rfl hlive he hv d kk
theorem gf_Waves_22 {G : zLA} {p : Program} {l : Launch} {e : Env} {R : Room} {s : State} {m : MethodId} {args : Array Value} {below : List Frame} {meth : Method} {c : Code} {cells slots : Nat} {Q : State → Prop} {cc : ByteArray} {nL : Nat} {ret : Option FieldType} {pc : Nat} {lv : List (Nat × Value)} {st : List Value} {σ : zSt} (C : zCx G p s m args meth c "VillageWaves" cc nL ret) {g o : Nat} {fs : List Value} {v : Value} (hlive : (g, o) ∈ zL G) (he : zct G σ g o = .inr (8, fs)) (hv : fs[3]? = some v) (d : decode cc pc = .ok (.getfield 22, 3)) (kk : zWV G p l e R s m args below meth c nL cells slots Q (pc + 3) lv (v :: st) σ) : zWV G p l e R s m args below meth c nL cells slots Q pc lv (.ref (zad G g o) :: st) σ :=
  z_get C zin_8 rfl 3 (by decide) zq442 rfl hlive he hv d kk
theorem gf_Waves_19 {G : zLA} {p : Program} {l : Launch} {e : Env} {R : Room} {s : State} {m : MethodId} {args : Array Value} {below : List Frame} {meth : Method} {c : Code} {cells slots : Nat} {Q : State → Prop} {cc : ByteArray} {nL : Nat} {ret : Option FieldType} {pc : Nat} {lv : List (Nat × Value)} {st : List Value} {σ : zSt} (C : zCx G p s m args meth c "VillageWaves" cc nL ret) {g o : Nat} {fs : List Value} {v : Value} (hlive : (g, o) ∈ zL G) (he : zct G σ g o = .inr (8, fs)) (hv : fs[2]? = some v) (d : decode cc pc = .ok (.getfield 19, 3)) (kk : zWV G p l e R s m args below meth c nL cells slots Q (pc + 3) lv (v :: st) σ) : zWV G p l e R s m args below meth c nL cells slots Q pc lv (.ref (zad G g o) :: st) σ :=
  z_get C zin_8 rfl 2 (by decide) zq441 rfl hlive he hv d kk
theorem kl_Waves_336 : zLV "VillageWaves" 336 "VillageWaves" y_Waves_savedIn b_Waves_savedIn 2 (some (.object "VillageWaves$Village")) 1 := ⟨zq1244, zq1246, zq27, zq94, zq1247, rfl, ⟨by decide, by decide, by decide +kernel⟩⟩
theorem gf_Waves_25 {G : zLA} {p : Program} {l : Launch} {e : Env} {R : Room} {s : State} {m : MethodId} {args : Array Value} {below : List Frame} {meth : Method} {c : Code} {cells slots : Nat} {Q : State → Prop} {cc : ByteArray} {nL : Nat} {ret : Option FieldType} {pc : Nat} {lv : List (Nat × Value)} {st : List Value} {σ : zSt} (C : zCx G p s m args meth c "VillageWaves" cc nL ret) {g o : Nat} {fs : List Value} {v : Value} (hlive : (g, o) ∈ zL G) (he : zct G σ g o = .inr (8, fs)) (hv : fs[4]? = some v) (d : decode cc pc = .ok (.getfield 25, 3)) (kk : zWV G p l e R s m args below meth c nL cells slots Q (pc + 3) lv (v :: st) σ) : zWV G p l e R s m args below meth c nL cells slots Q pc lv (.ref (zad G g o) :: st) σ :=
  z_get C zin_8 rfl 4 (by decide) zq443 rfl hlive he hv d kk
theorem kl_Waves_340 : zLS "VillageWaves" 340 y_Waves_bit b_Waves_bit 1 (some .int) 1 := ⟨zq1248, zq626, zq94, zq627, ⟨by decide, by decide, by decide +kernel⟩⟩
theorem pf_Waves_25 {G : zLA} {p : Program} {l : Launch} {e : Env} {R : Room} {s : State} {m : MethodId} {args : Array Value} {below : List Frame} {meth : Method} {c : Code} {cells slots : Nat} {Q : State → Prop} {cc : ByteArray} {nL : Nat} {ret : Option FieldType} {pc : Nat} {lv : List (Nat × Value)} {st : List Value} {σ : zSt} (C : zCx G p s m args meth c "VillageWaves" cc nL ret) {g o : Nat} {fs : List Value} {v : Int32} (hlive : (g, o) ∈ zL G) (he : zct G σ g o = .inr (8, fs)) (hl0 : 4 < fs.length) (hset : zshp G g o (upd (σ.1 g o) 4 v) (σ.2.1 o) (σ.2.2 o) = .inr (8, fs.set 4 (.int v))) (d : decode cc pc = .ok (.putfield 25, 3)) (kk : zWV G p l e R s m args below meth c nL cells slots Q (pc + 3) lv st (zst σ g o 4 v)) : zWV G p l e R s m args below meth c nL cells slots Q pc lv (.int v :: .ref (zad G g o) :: st) σ :=
  z_put C zin_8 zy8 zn8 rfl 4 (by decide) zq443 rfl rfl rfl hlive he hl0 hset d kk
theorem gf_Model_48 {G : zLA} {p : Program} {l : Launch} {e : Env} {R : Room} {s : State} {m : MethodId} {args : Array Value} {below : List Frame} {meth : Method} {c : Code} {cells slots : Nat} {Q : State → Prop} {cc : ByteArray} {nL : Nat} {ret : Option FieldType} {pc : Nat} {lv : List (Nat × Value)} {st : List Value} {σ : zSt} (C : zCx G p s m args meth c "VillageWavesModel" cc nL ret) {g o : Nat} {fs : List Value} {v : Value} (hlive : (g, o) ∈ zL G) (he : zct G σ g o = .inr (9, fs)) (hv : fs[8]? = some v) (d : decode cc pc = .ok (.getfield 48, 3)) (kk : zWV G p l e R s m args below meth c nL cells slots Q (pc + 3) lv (v :: st) σ) : zWV G p l e R s m args below meth c nL cells slots Q pc lv (.ref (zad G g o) :: st) σ :=
  z_get C zin_9 rfl 8 (by decide) zq1275 rfl hlive he hv d kk
theorem pf_Model_48 {G : zLA} {p : Program} {l : Launch} {e : Env} {R : Room} {s : State} {m : MethodId} {args : Array Value} {below : List Frame} {meth : Method} {c : Code} {cells slots : Nat} {Q : State → Prop} {cc : ByteArray} {nL : Nat} {ret : Option FieldType} {pc : Nat} {lv : List (Nat × Value)} {st : List Value} {σ : zSt} (C : zCx G p s m args meth c "VillageWavesModel" cc nL ret) {g o : Nat} {fs : List Value} {v : Int32} (hlive : (g, o) ∈ zL G) (he : zct G σ g o = .inr (9, fs)) (hl0 : 8 < fs.length) (hset : zshp G g o (upd (σ.1 g o) 8 v) (σ.2.1 o) (σ.2.2 o) = .inr (9, fs.set 8 (.int v))) (d : decode cc pc = .ok (.putfield 48, 3)) (kk : zWV G p l e R s m args below meth c nL cells slots Q (pc + 3) lv st (zst σ g o 8 v)) : zWV G p l e R s m args below meth c nL cells slots Q pc lv (.int v :: .ref (zad G g o) :: st) σ :=
  z_put C zin_9 zy9 zn9 rfl 8 (by decide) zq1275 rfl rfl rfl hlive he hl0 hset d kk
theorem gf_Model_7 {G : zLA} {p : Program} {l : Launch} {e : Env} {R : Room} {s : State} {m : MethodId} {args : Array Value} {below : List Frame} {meth : Method} {c : Code} {cells slots : Nat} {Q : State → Prop} {cc : ByteArray} {nL : Nat} {ret : Option FieldType} {pc : Nat} {lv : List (Nat × Value)} {st : List Value} {σ : zSt} (C : zCx G p s m args meth c "VillageWavesModel" cc nL ret) {g o : Nat} {fs : List Value} {v : Value} (hlive : (g, o) ∈ zL G) (he : zct G σ g o = .inr (9, fs)) (hv : fs[0]? = some v) (d : decode cc pc = .ok (.getfield 7, 3)) (kk : zWV G p l e R s m args below meth c nL cells slots Q (pc + 3) lv (v :: st) σ) : zWV G p l e R s m args below meth c nL cells slots Q pc lv (.ref (zad G g o) :: st) σ :=
  z_get C zin_9 rfl 0 (by decide) zq1267 rfl hlive he hv d kk
theorem gf_Model_26 {G : zLA} {p : Program} {l : Launch} {e : Env} {R : Room} {s : State} {m : MethodId} {args : Array Value} {below : List Frame} {meth : Method} {c : Code} {cells slots : Nat} {Q : State → Prop} {cc : ByteArray} {nL : Nat} {ret : Option FieldType} {pc : Nat} {lv : List (Nat × Value)} {st : List Value} {σ : zSt} (C : zCx G p s m args meth c "VillageWavesModel" cc nL ret) {g o : Nat} {fs : List Value} {v : Value} (hlive : (g, o) ∈ zL G) (he : zct G σ g o = .inr (9, fs)) (hv : fs[5]? = some v) (d : decode cc pc = .ok (.getfield 26, 3)) (kk : zWV G p l e R s m args below meth c nL cells slots Q (pc + 3) lv (v :: st) σ) : zWV G p l e R s m args below meth c nL cells slots Q pc lv (.ref (zad G g o) :: st) σ :=
  z_get C zin_9 rfl 5 (by decide) zq1272 rfl hlive he hv d kk
theorem kl_Model_51 : zLS "VillageWavesModel" 51 y_Model_isBetween b_Model_isBetween 3 (some .boolean) 3 := ⟨zq1357, zq1358, zq105, zq1359, ⟨by decide, by decide, by decide +kernel⟩⟩
theorem kl_Model_55 : zLS "VillageWavesModel" 55 y_Model_pairPlace b_Model_pairPlace 2 (some .int) 2 := ⟨zq1437, zq1438, zq105, zq1439, ⟨by decide, by decide, by decide +kernel⟩⟩
theorem gf_Model_59 {G : zLA} {p : Program} {l : Launch} {e : Env} {R : Room} {s : State} {m : MethodId} {args : Array Value} {below : List Frame} {meth : Method} {c : Code} {cells slots : Nat} {Q : State → Prop} {cc : ByteArray} {nL : Nat} {ret : Option FieldType} {pc : Nat} {lv : List (Nat × Value)} {st : List Value} {σ : zSt} (C : zCx G p s m args meth c "VillageWavesModel" cc nL ret) {g o : Nat} {fs : List Value} {v : Value} (hlive : (g, o) ∈ zL G) (he : zct G σ g o = .inr (9, fs)) (hv : fs[10]? = some v) (d : decode cc pc = .ok (.getfield 59, 3)) (kk : zWV G p l e R s m args below meth c nL cells slots Q (pc + 3) lv (v :: st) σ) : zWV G p l e R s m args below meth c nL cells slots Q pc lv (.ref (zad G g o) :: st) σ :=
  z_get C zin_9 rfl 10 (by decide) zq1277 rfl hlive he hv d kk
theorem kl_Model_62 : zLV "VillageWavesModel" 62 "VillageWavesModel" y_Model_fail b_Model_fail 2 (some .int) 1 := ⟨zq1349, zq1351, zq29, zq105, zq1352, rfl, ⟨by decide, by decide, by decide +kernel⟩⟩
theorem gf_Model_35 {G : zLA} {p : Program} {l : Launch} {e : Env} {R : Room} {s : State} {m : MethodId} {args : Array Value} {below : List Frame} {meth : Method} {c : Code} {cells slots : Nat} {Q : State → Prop} {cc : ByteArray} {nL : Nat} {ret : Option FieldType} {pc : Nat} {lv : List (Nat × Value)} {st : List Value} {σ : zSt} (C : zCx G p s m args meth c "VillageWavesModel" cc nL ret) {g o : Nat} {fs : List Value} {v : Value} (hlive : (g, o) ∈ zL G) (he : zct G σ g o = .inr (9, fs)) (hv : fs[9]? = some v) (d : decode cc pc = .ok (.getfield 35, 3)) (kk : zWV G p l e R s m args below meth c nL cells slots Q (pc + 3) lv (v :: st) σ) : zWV G p l e R s m args below meth c nL cells slots Q pc lv (.ref (zad G g o) :: st) σ :=
  z_get C zin_9 rfl 9 (by decide) zq1276 rfl hlive he hv d kk
theorem pf_Model_59 {G : zLA} {p : Program} {l : Launch} {e : Env} {R : Room} {s : State} {m : MethodId} {args : Array Value} {below : List Frame} {meth : Method} {c : Code} {cells slots : Nat} {Q : State → Prop} {cc : ByteArray} {nL : Nat} {ret : Option FieldType} {pc : Nat} {lv : List (Nat × Value)} {st : List Value} {σ : zSt} (C : zCx G p s m args meth c "VillageWavesModel" cc nL ret) {g o : Nat} {fs : List Value} {v : Int32} (hlive : (g, o) ∈ zL G) (he : zct G σ g o = .inr (9, fs)) (hl0 : 10 < fs.length) (hset : zshp G g o (upd (σ.1 g o) 10 v) (σ.2.1 o) (σ.2.2 o) = .inr (9, fs.set 10 (.int v))) (d : decode cc pc = .ok (.putfield 59, 3)) (kk : zWV G p l e R s m args below meth c nL cells slots Q (pc + 3) lv st (zst σ g o 10 v)) : zWV G p l e R s m args below meth c nL cells slots Q pc lv (.int v :: .ref (zad G g o) :: st) σ :=
  z_put C zin_9 zy9 zn9 rfl 10 (by decide) zq1277 rfl rfl rfl hlive he hl0 hset d kk
theorem gf_Model_66 {G : zLA} {p : Program} {l : Launch} {e : Env} {R : Room} {s : State} {m : MethodId} {args : Array Value} {below : List Frame} {meth : Method} {c : Code} {cells slots : Nat} {Q : State → Prop} {cc : ByteArray} {nL : Nat} {ret : Option FieldType} {pc : Nat} {lv : List (Nat × Value)} {st : List Value} {σ : zSt} (C : zCx G p s m args meth c "VillageWavesModel" cc nL ret) {g o : Nat} {fs : List Value} {v : Value} (hlive : (g, o) ∈ zL G) (he : zct G σ g o = .inr (9, fs)) (hv : fs[11]? = some v) (d : decode cc pc = .ok (.getfield 66, 3)) (kk : zWV G p l e R s m args below meth c nL cells slots Q (pc + 3) lv (v :: st) σ) : zWV G p l e R s m args below meth c nL cells slots Q pc lv (.ref (zad G g o) :: st) σ :=
  z_get C zin_9 rfl 11 (by decide) zq1278 rfl hlive he hv d kk
theorem kl_Model_69 : zLV "VillageWavesModel" 69 "VillageWavesModel" y_Model_byteAt b_Model_byteAt 2 (some .int) 1 := ⟨zq1371, zq1373, zq31, zq105, zq1374, rfl, ⟨by decide, by decide, by decide +kernel⟩⟩
theorem pf_Model_66 {G : zLA} {p : Program} {l : Launch} {e : Env} {R : Room} {s : State} {m : MethodId} {args : Array Value} {below : List Frame} {meth : Method} {c : Code} {cells slots : Nat} {Q : State → Prop} {cc : ByteArray} {nL : Nat} {ret : Option FieldType} {pc : Nat} {lv : List (Nat × Value)} {st : List Value} {σ : zSt} (C : zCx G p s m args meth c "VillageWavesModel" cc nL ret) {g o : Nat} {fs : List Value} {v : Int32} (hlive : (g, o) ∈ zL G) (he : zct G σ g o = .inr (9, fs)) (hl0 : 11 < fs.length) (hset : zshp G g o (upd (σ.1 g o) 11 v) (σ.2.1 o) (σ.2.2 o) = .inr (9, fs.set 11 (.int v))) (d : decode cc pc = .ok (.putfield 66, 3)) (kk : zWV G p l e R s m args below meth c nL cells slots Q (pc + 3) lv st (zst σ g o 11 v)) : zWV G p l e R s m args below meth c nL cells slots Q pc lv (.int v :: .ref (zad G g o) :: st) σ :=
  z_put C zin_9 zy9 zn9 rfl 11 (by decide) zq1278 rfl rfl rfl hlive he hl0 hset d kk
theorem pf_Model_72 {G : zLA} {p : Program} {l : Launch} {e : Env} {R : Room} {s : State} {m : MethodId} {args : Array Value} {below : List Frame} {meth : Method} {c : Code} {cells slots : Nat} {Q : State → Prop} {cc : ByteArray} {nL : Nat} {ret : Option FieldType} {pc : Nat} {lv : List (Nat × Value)} {st : List Value} {σ : zSt} (C : zCx G p s m args meth c "VillageWavesModel" cc nL ret) {g o : Nat} {fs : List Value} {v : Int32} (hlive : (g, o) ∈ zL G) (he : zct G σ g o = .inr (9, fs)) (hl0 : 12 < fs.length) (hset : zshp G g o (upd (σ.1 g o) 12 v) (σ.2.1 o) (σ.2.2 o) = .inr (9, fs.set 12 (.int v))) (d : decode cc pc = .ok (.putfield 72, 3)) (kk : zWV G p l e R s m args below meth c nL cells slots Q (pc + 3) lv st (zst σ g o 12 v)) : zWV G p l e R s m args below meth c nL cells slots Q pc lv (.int v :: .ref (zad G g o) :: st) σ :=
  z_put C zin_9 zy9 zn9 rfl 12 (by decide) zq1279 rfl rfl rfl hlive he hl0 hset d kk
theorem pf_Model_75 {G : zLA} {p : Program} {l : Launch} {e : Env} {R : Room} {s : State} {m : MethodId} {args : Array Value} {below : List Frame} {meth : Method} {c : Code} {cells slots : Nat} {Q : State → Prop} {cc : ByteArray} {nL : Nat} {ret : Option FieldType} {pc : Nat} {lv : List (Nat × Value)} {st : List Value} {σ : zSt} (C : zCx G p s m args meth c "VillageWavesModel" cc nL ret) {g o : Nat} {fs : List Value} {v : Int32} (hlive : (g, o) ∈ zL G) (he : zct G σ g o = .inr (9, fs)) (hl0 : 14 < fs.length) (hset : zshp G g o (upd (σ.1 g o) 14 v) (σ.2.1 o) (σ.2.2 o) = .inr (9, fs.set 14 (.int v))) (d : decode cc pc = .ok (.putfield 75, 3)) (kk : zWV G p l e R s m args below meth c nL cells slots Q (pc + 3) lv st (zst σ g o 14 v)) : zWV G p l e R s m args below meth c nL cells slots Q pc lv (.int v :: .ref (zad G g o) :: st) σ :=
  z_put C zin_9 zy9 zn9 rfl 14 (by decide) zq1281 rfl rfl rfl hlive he hl0 hset d kk
theorem pf_Model_78 {G : zLA} {p : Program} {l : Launch} {e : Env} {R : Room} {s : State} {m : MethodId} {args : Array Value} {below : List Frame} {meth : Method} {c : Code} {cells slots : Nat} {Q : State → Prop} {cc : ByteArray} {nL : Nat} {ret : Option FieldType} {pc : Nat} {lv : List (Nat × Value)} {st : List Value} {σ : zSt} (C : zCx G p s m args meth c "VillageWavesModel" cc nL ret) {v : Int64} (hlive : (4, 80) ∈ zL G) (d : decode cc pc = .ok (.putfield 78, 3)) (kk : zWV G p l e R s m args below meth c nL cells slots Q (pc + 3) lv st (zsl σ 80 v)) : zWV G p l e R s m args below meth c nL cells slots Q pc lv (.long v :: .ref (zad G 4 80) :: st) σ :=
  z_putL C zin_9 zy9 zn9 rfl 18 (by decide) zq1285 rfl rfl rfl hlive (fun g9 h9 => C.L.2 (g9, 80) h9 (Or.inl rfl)) rfl (Nat.le_of_ble_eq_true rfl) rfl d kk
theorem pf_Model_82 {G : zLA} {p : Program} {l : Launch} {e : Env} {R : Room} {s : State} {m : MethodId} {args : Array Value} {below : List Frame} {meth : Method} {c : Code} {cells slots : Nat} {Q : State → Prop} {cc : ByteArray} {nL : Nat} {ret : Option FieldType} {pc : Nat} {lv : List (Nat × Value)} {st : List Value} {σ : zSt} (C : zCx G p s m args meth c "VillageWavesModel" cc nL ret) {g o : Nat} {fs : List Value} {v : Int32} (hlive : (g, o) ∈ zL G) (he : zct G σ g o = .inr (9, fs)) (hl0 : 15 < fs.length) (hset : zshp G g o (upd (σ.1 g o) 15 v) (σ.2.1 o) (σ.2.2 o) = .inr (9, fs.set 15 (.int v))) (d : decode cc pc = .ok (.putfield 82, 3)) (kk : zWV G p l e R s m args below meth c nL cells slots Q (pc + 3) lv st (zst σ g o 15 v)) : zWV G p l e R s m args below meth c nL cells slots Q pc lv (.int v :: .ref (zad G g o) :: st) σ :=
  z_put C zin_9 zy9 zn9 rfl 15 (by decide) zq1282 rfl rfl rfl hlive he hl0 hset d kk
theorem kl_Model_88 : zLS "VillageWavesModel" 88 y_Model_isLetter b_Model_isLetter 1 (some .boolean) 1 := ⟨zq1375, zq1376, zq105, zq1377, ⟨by decide, by decide, by decide +kernel⟩⟩
theorem kl_Model_96 : zLS "VillageWavesModel" 96 y_Model_isDigit b_Model_isDigit 1 (some .boolean) 1 := ⟨zq1380, zq1381, zq105, zq1382, ⟨by decide, by decide, by decide +kernel⟩⟩
theorem pf_Model_85 {G : zLA} {p : Program} {l : Launch} {e : Env} {R : Room} {s : State} {m : MethodId} {args : Array Value} {below : List Frame} {meth : Method} {c : Code} {cells slots : Nat} {Q : State → Prop} {cc : ByteArray} {nL : Nat} {ret : Option FieldType} {pc : Nat} {lv : List (Nat × Value)} {st : List Value} {σ : zSt} (C : zCx G p s m args meth c "VillageWavesModel" cc nL ret) {g o : Nat} {fs : List Value} {v : Int32} (hlive : (g, o) ∈ zL G) (he : zct G σ g o = .inr (9, fs)) (hl0 : 13 < fs.length) (hset : zshp G g o (upd (σ.1 g o) 13 v) (σ.2.1 o) (σ.2.2 o) = .inr (9, fs.set 13 (.int v))) (d : decode cc pc = .ok (.putfield 85, 3)) (kk : zWV G p l e R s m args below meth c nL cells slots Q (pc + 3) lv st (zst σ g o 13 v)) : zWV G p l e R s m args below meth c nL cells slots Q pc lv (.int v :: .ref (zad G g o) :: st) σ :=
  z_put C zin_9 zy9 zn9 rfl 13 (by decide) zq1280 rfl rfl rfl hlive he hl0 hset d kk
theorem gf_Model_82 {G : zLA} {p : Program} {l : Launch} {e : Env} {R : Room} {s : State} {m : MethodId} {args : Array Value} {below : List Frame} {meth : Method} {c : Code} {cells slots : Nat} {Q : State → Prop} {cc : ByteArray} {nL : Nat} {ret : Option FieldType} {pc : Nat} {lv : List (Nat × Value)} {st : List Value} {σ : zSt} (C : zCx G p s m args meth c "VillageWavesModel" cc nL ret) {g o : Nat} {fs : List Value} {v : Value} (hlive : (g, o) ∈ zL G) (he : zct G σ g o = .inr (9, fs)) (hv : fs[15]? = some v) (d : decode cc pc = .ok (.getfield 82, 3)) (kk : zWV G p l e R s m args below meth c nL cells slots Q (pc + 3) lv (v :: st) σ) : zWV G p l e R s m args below meth c nL cells slots Q pc lv (.ref (zad G g o) :: st) σ :=
  z_get C zin_9 rfl 15 (by decide) zq1282 rfl hlive he hv d kk
theorem gf_Model_75 {G : zLA} {p : Program} {l : Launch} {e : Env} {R : Room} {s : State} {m : MethodId} {args : Array Value} {below : List Frame} {meth : Method} {c : Code} {cells slots : Nat} {Q : State → Prop} {cc : ByteArray} {nL : Nat} {ret : Option FieldType} {pc : Nat} {lv : List (Nat × Value)} {st : List Value} {σ : zSt} (C : zCx G p s m args meth c "VillageWavesModel" cc nL ret) {g o : Nat} {fs : List Value} {v : Value} (hlive : (g, o) ∈ zL G) (he : zct G σ g o = .inr (9, fs)) (hv : fs[14]? = some v) (d : decode cc pc = .ok (.getfield 75, 3)) (kk : zWV G p l e R s m args below meth c nL cells slots Q (pc + 3) lv (v :: st) σ) : zWV G p l e R s m args below meth c nL cells slots Q pc lv (.ref (zad G g o) :: st) σ :=
  z_get C zin_9 rfl 14 (by decide) zq1281 rfl hlive he hv d kk
theorem gf_Model_78 {G : zLA} {p : Program} {l : Launch} {e : Env} {R : Room} {s : State} {m : MethodId} {args : Array Value} {below : List Frame} {meth : Method} {c : Code} {cells slots : Nat} {Q : State → Prop} {cc : ByteArray} {nL : Nat} {ret : Option FieldType} {pc : Nat} {lv : List (Nat × Value)} {st : List Value} {σ : zSt} (C : zCx G p s m args meth c "VillageWavesModel" cc nL ret) {g o : Nat} {fs : List Value} {v : Value} (hlive : (g, o) ∈ zL G) (he : zct G σ g o = .inr (9, fs)) (hv : fs[18]? = some v) (d : decode cc pc = .ok (.getfield 78, 3)) (kk : zWV G p l e R s m args below meth c nL cells slots Q (pc + 3) lv (v :: st) σ) : zWV G p l e R s m args below meth c nL cells slots Q pc lv (.ref (zad G g o) :: st) σ :=
  z_get C zin_9 rfl 18 (by decide) zq1285 rfl hlive he hv d kk
theorem gf_Model_85 {G : zLA} {p : Program} {l : Launch} {e : Env} {R : Room} {s : State} {m : MethodId} {args : Array Value} {below : List Frame} {meth : Method} {c : Code} {cells slots : Nat} {Q : State → Prop} {cc : ByteArray} {nL : Nat} {ret : Option FieldType} {pc : Nat} {lv : List (Nat × Value)} {st : List Value} {σ : zSt} (C : zCx G p s m args meth c "VillageWavesModel" cc nL ret) {g o : Nat} {fs : List Value} {v : Value} (hlive : (g, o) ∈ zL G) (he : zct G σ g o = .inr (9, fs)) (hv : fs[13]? = some v) (d : decode cc pc = .ok (.getfield 85, 3)) (kk : zWV G p l e R s m args below meth c nL cells slots Q (pc + 3) lv (v :: st) σ) : zWV G p l e R s m args below meth c nL cells slots Q pc lv (.ref (zad G g o) :: st) σ :=
  z_get C zin_9 rfl 13 (by decide) zq1280 rfl hlive he hv d kk
theorem kl_Model_100 : zLV "VillageWavesModel" 100 "java/lang/String" y_String_length b_String_length 1 (some .int) 0 := ⟨zq1389, zq506, zq507, zq111, zq508, rfl, ⟨by decide, by decide, by decide +kernel⟩⟩
theorem kl_Model_106 : zLV "VillageWavesModel" 106 "java/lang/String" y_String_charAt b_String_charAt 2 (some .char) 1 := ⟨zq1390, zq516, zq517, zq111, zq518, rfl, ⟨by decide, by decide, by decide +kernel⟩⟩
theorem gf_Model_110 {G : zLA} {p : Program} {l : Launch} {e : Env} {R : Room} {s : State} {m : MethodId} {args : Array Value} {below : List Frame} {meth : Method} {c : Code} {cells slots : Nat} {Q : State → Prop} {cc : ByteArray} {nL : Nat} {ret : Option FieldType} {pc : Nat} {lv : List (Nat × Value)} {st : List Value} {σ : zSt} (C : zCx G p s m args meth c "VillageWavesModel" cc nL ret) {g o : Nat} {fs : List Value} {v : Value} (hlive : (g, o) ∈ zL G) (he : zct G σ g o = .inr (9, fs)) (hv : fs[16]? = some v) (d : decode cc pc = .ok (.getfield 110, 3)) (kk : zWV G p l e R s m args below meth c nL cells slots Q (pc + 3) lv (v :: st) σ) : zWV G p l e R s m args below meth c nL cells slots Q pc lv (.ref (zad G g o) :: st) σ :=
  z_get C zin_9 rfl 16 (by decide) zq1283 rfl hlive he hv d kk
theorem pf_Model_110 {G : zLA} {p : Program} {l : Launch} {e : Env} {R : Room} {s : State} {m : MethodId} {args : Array Value} {below : List Frame} {meth : Method} {c : Code} {cells slots : Nat} {Q : State → Prop} {cc : ByteArray} {nL : Nat} {ret : Option FieldType} {pc : Nat} {lv : List (Nat × Value)} {st : List Value} {σ : zSt} (C : zCx G p s m args meth c "VillageWavesModel" cc nL ret) {g o : Nat} {fs : List Value} {v : Int32} (hlive : (g, o) ∈ zL G) (he : zct G σ g o = .inr (9, fs)) (hl0 : 16 < fs.length) (hset : zshp G g o (upd (σ.1 g o) 16 v) (σ.2.1 o) (σ.2.2 o) = .inr (9, fs.set 16 (.int v))) (d : decode cc pc = .ok (.putfield 110, 3)) (kk : zWV G p l e R s m args below meth c nL cells slots Q (pc + 3) lv st (zst σ g o 16 v)) : zWV G p l e R s m args below meth c nL cells slots Q pc lv (.int v :: .ref (zad G g o) :: st) σ :=
  z_put C zin_9 zy9 zn9 rfl 16 (by decide) zq1283 rfl rfl rfl hlive he hl0 hset d kk
theorem gf_Model_72 {G : zLA} {p : Program} {l : Launch} {e : Env} {R : Room} {s : State} {m : MethodId} {args : Array Value} {below : List Frame} {meth : Method} {c : Code} {cells slots : Nat} {Q : State → Prop} {cc : ByteArray} {nL : Nat} {ret : Option FieldType} {pc : Nat} {lv : List (Nat × Value)} {st : List Value} {σ : zSt} (C : zCx G p s m args meth c "VillageWavesModel" cc nL ret) {g o : Nat} {fs : List Value} {v : Value} (hlive : (g, o) ∈ zL G) (he : zct G σ g o = .inr (9, fs)) (hv : fs[12]? = some v) (d : decode cc pc = .ok (.getfield 72, 3)) (kk : zWV G p l e R s m args below meth c nL cells slots Q (pc + 3) lv (v :: st) σ) : zWV G p l e R s m args below meth c nL cells slots Q pc lv (.ref (zad G g o) :: st) σ :=
  z_get C zin_9 rfl 12 (by decide) zq1279 rfl hlive he hv d kk
theorem pf_Model_38 {G : zLA} {p : Program} {l : Launch} {e : Env} {R : Room} {s : State} {m : MethodId} {args : Array Value} {below : List Frame} {meth : Method} {c : Code} {cells slots : Nat} {Q : State → Prop} {cc : ByteArray} {nL : Nat} {ret : Option FieldType} {pc : Nat} {lv : List (Nat × Value)} {st : List Value} {σ : zSt} (C : zCx G p s m args meth c "VillageWavesModel" cc nL ret) {g o : Nat} {fs : List Value} {v : Int32} (hlive : (g, o) ∈ zL G) (he : zct G σ g o = .inr (9, fs)) (hl0 : 17 < fs.length) (hset : zshp G g o (upd (σ.1 g o) 17 v) (σ.2.1 o) (σ.2.2 o) = .inr (9, fs.set 17 (.int v))) (d : decode cc pc = .ok (.putfield 38, 3)) (kk : zWV G p l e R s m args below meth c nL cells slots Q (pc + 3) lv st (zst σ g o 17 v)) : zWV G p l e R s m args below meth c nL cells slots Q pc lv (.int v :: .ref (zad G g o) :: st) σ :=
  z_put C zin_9 zy9 zn9 rfl 17 (by decide) zq1284 rfl rfl rfl hlive he hl0 hset d kk
theorem kl_Model_113 : zLV "VillageWavesModel" 113 "VillageWavesModel" y_Model_isFine b_Model_isFine 1 (some .boolean) 0 := ⟨zq1395, zq1397, zq34, zq105, zq1398, rfl, ⟨by decide, by decide, by decide +kernel⟩⟩
theorem kl_Model_117 : zLV "VillageWavesModel" 117 "VillageWavesModel" y_Model_nextToken b_Model_nextToken 2 none 0 := ⟨zq1367, zq1369, zq30, zq105, zq1370, rfl, ⟨by decide, by decide, by decide +kernel⟩⟩
theorem kl_Model_120 : zLV "VillageWavesModel" 120 "VillageWavesModel" y_Model_require b_Model_require 3 none 2 := ⟨zq1403, zq1405, zq36, zq105, zq1406, rfl, ⟨by decide, by decide, by decide +kernel⟩⟩
theorem kl_Model_124 : zLV "VillageWavesModel" 124 "VillageWavesModel" y_Model_advance b_Model_advance 1 none 0 := ⟨zq1391, zq1393, zq33, zq105, zq1394, rfl, ⟨by decide, by decide, by decide +kernel⟩⟩
theorem kl_Model_184 : zLV "VillageWavesModel" 184 "VillageWavesModel" y_Model_setPair b_Model_setPair 5 none 4 := ⟨zq1433, zq1435, zq43, zq105, zq1436, rfl, ⟨by decide, by decide, by decide +kernel⟩⟩
theorem kl_Model_140 : zLV "VillageWavesModel" 140 "VillageWavesModel" y_Model_put b_Model_put 4 none 3 := ⟨zq1425, zq1427, zq41, zq105, zq1428, rfl, ⟨by decide, by decide, by decide +kernel⟩⟩
theorem kl_Model_180 : zLV "VillageWavesModel" 180 "VillageWavesModel" y_Model_clearPair b_Model_clearPair 4 none 2 := ⟨zq1429, zq1431, zq42, zq105, zq1432, rfl, ⟨by decide, by decide, by decide +kernel⟩⟩
theorem kl_Model_127 : zLV "VillageWavesModel" 127 "VillageWavesModel" y_Model_parseNumber b_Model_parseNumber 4 (some .int) 2 := ⟨zq1399, zq1401, zq35, zq105, zq1402, rfl, ⟨by decide, by decide, by decide +kernel⟩⟩
theorem kl_Model_132 : zLV "VillageWavesModel" 132 "VillageWavesModel" y_Model_isWord b_Model_isWord 5 (some .boolean) 1 := ⟨zq1385, zq1387, zq32, zq105, zq1388, rfl, ⟨by decide, by decide, by decide +kernel⟩⟩
theorem kl_Model_136 : zLV "VillageWavesModel" 136 "VillageWavesModel" y_Model_appendHouse b_Model_appendHouse 8 (some .int) 5 := ⟨zq1421, zq1423, zq40, zq105, zq1424, rfl, ⟨by decide, by decide, by decide +kernel⟩⟩
theorem gf_Model_29 {G : zLA} {p : Program} {l : Launch} {e : Env} {R : Room} {s : State} {m : MethodId} {args : Array Value} {below : List Frame} {meth : Method} {c : Code} {cells slots : Nat} {Q : State → Prop} {cc : ByteArray} {nL : Nat} {ret : Option FieldType} {pc : Nat} {lv : List (Nat × Value)} {st : List Value} {σ : zSt} (C : zCx G p s m args meth c "VillageWavesModel" cc nL ret) {g o : Nat} {fs : List Value} {v : Value} (hlive : (g, o) ∈ zL G) (he : zct G σ g o = .inr (9, fs)) (hv : fs[6]? = some v) (d : decode cc pc = .ok (.getfield 29, 3)) (kk : zWV G p l e R s m args below meth c nL cells slots Q (pc + 3) lv (v :: st) σ) : zWV G p l e R s m args below meth c nL cells slots Q pc lv (.ref (zad G g o) :: st) σ :=
  z_get C zin_9 rfl 6 (by decide) zq1273 rfl hlive he hv d kk
theorem gf_Model_32 {G : zLA} {p : Program} {l : Launch} {e : Env} {R : Room} {s : State} {m : MethodId} {args : Array Value} {below : List Frame} {meth : Method} {c : Code} {cells slots : Nat} {Q : State → Prop} {cc : ByteArray} {nL : Nat} {ret : Option FieldType} {pc : Nat} {lv : List (Nat × Value)} {st : List Value} {σ : zSt} (C : zCx G p s m args meth c "VillageWavesModel" cc nL ret) {g o : Nat} {fs : List Value} {v : Value} (hlive : (g, o) ∈ zL G) (he : zct G σ g o = .inr (9, fs)) (hv : fs[7]? = some v) (d : decode cc pc = .ok (.getfield 32, 3)) (kk : zWV G p l e R s m args below meth c nL cells slots Q (pc + 3) lv (v :: st) σ) : zWV G p l e R s m args below meth c nL cells slots Q pc lv (.ref (zad G g o) :: st) σ :=
  z_get C zin_9 rfl 7 (by decide) zq1274 rfl hlive he hv d kk
theorem kl_Model_283 : zLV "VillageWavesModel" 283 "VillageWavesModel" y_Model_tellStory b_Model_tellStory 4 none 3 := ⟨zq1460, zq1462, zq48, zq105, zq1463, rfl, ⟨by decide, by decide, by decide +kernel⟩⟩
theorem kl_Model_286 : zLV "VillageWavesModel" 286 "VillageWavesModel" y_Model_enter b_Model_enter 4 none 3 := ⟨zq1464, zq1466, zq49, zq105, zq1467, rfl, ⟨by decide, by decide, by decide +kernel⟩⟩
theorem kl_Model_147 : zLV "VillageWavesModel" 147 "VillageWavesModel" y_Model_appendNews b_Model_appendNews 5 (some .int) 2 := ⟨zq1456, zq1458, zq47, zq105, zq1459, rfl, ⟨by decide, by decide, by decide +kernel⟩⟩
theorem kl_Model_165 : zLV "VillageWavesModel" 165 "VillageWavesModel" y_Model_parseNews b_Model_parseNews 4 none 0 := ⟨zq1451, zq1453, zq46, zq105, zq1454, rfl, ⟨by decide, by decide, by decide +kernel⟩⟩
theorem kl_Model_168 : zLV "VillageWavesModel" 168 "VillageWavesModel" y_Model_parseEnd b_Model_parseEnd 1 none 0 := ⟨zq1407, zq1409, zq37, zq105, zq1410, rfl, ⟨by decide, by decide, by decide +kernel⟩⟩
theorem kl_Model_162 : zLV "VillageWavesModel" 162 "VillageWavesModel" y_Model_parseSeed b_Model_parseSeed 2 none 0 := ⟨zq1446, zq1448, zq45, zq105, zq1449, rfl, ⟨by decide, by decide, by decide +kernel⟩⟩
theorem kl_Model_157 : zLV "VillageWavesModel" 157 "VillageWavesModel" y_Model_parseSet b_Model_parseSet 3 none 0 := ⟨zq1441, zq1443, zq44, zq105, zq1444, rfl, ⟨by decide, by decide, by decide +kernel⟩⟩
theorem kl_Model_152 : zLV "VillageWavesModel" 152 "VillageWavesModel" y_Model_parseHouse b_Model_parseHouse 9 none 0 := ⟨zq1416, zq1418, zq39, zq105, zq1419, rfl, ⟨by decide, by decide, by decide +kernel⟩⟩
theorem gf_Model_13 {G : zLA} {p : Program} {l : Launch} {e : Env} {R : Room} {s : State} {m : MethodId} {args : Array Value} {below : List Frame} {meth : Method} {c : Code} {cells slots : Nat} {Q : State → Prop} {cc : ByteArray} {nL : Nat} {ret : Option FieldType} {pc : Nat} {lv : List (Nat × Value)} {st : List Value} {σ : zSt} (C : zCx G p s m args meth c "VillageWavesModel" cc nL ret) {g o : Nat} {fs : List Value} {v : Value} (hlive : (g, o) ∈ zL G) (he : zct G σ g o = .inr (9, fs)) (hv : fs[1]? = some v) (d : decode cc pc = .ok (.getfield 13, 3)) (kk : zWV G p l e R s m args below meth c nL cells slots Q (pc + 3) lv (v :: st) σ) : zWV G p l e R s m args below meth c nL cells slots Q pc lv (.ref (zad G g o) :: st) σ :=
  z_get C zin_9 rfl 1 (by decide) zq1268 rfl hlive he hv d kk
theorem kl_Model_171 : zLS "VillageWavesModel" 171 y_Model_copy b_Model_copy 5 none 4 := ⟨zq1364, zq1365, zq105, zq1366, ⟨by decide, by decide, by decide +kernel⟩⟩
theorem kl_Model_45 : zLV "VillageWavesModel" 45 "VillageWavesModel" y_Model_clear b_Model_clear 2 none 0 := ⟨zq1263, zq1265, zq28, zq105, zq1266, rfl, ⟨by decide, by decide, by decide +kernel⟩⟩
theorem kl_Model_177 : zLV "VillageWavesModel" 177 "VillageWavesModel" y_Model_parseStatement b_Model_parseStatement 1 none 0 := ⟨zq1411, zq1413, zq38, zq105, zq1414, rfl, ⟨by decide, by decide, by decide +kernel⟩⟩
theorem gf_Model_38 {G : zLA} {p : Program} {l : Launch} {e : Env} {R : Room} {s : State} {m : MethodId} {args : Array Value} {below : List Frame} {meth : Method} {c : Code} {cells slots : Nat} {Q : State → Prop} {cc : ByteArray} {nL : Nat} {ret : Option FieldType} {pc : Nat} {lv : List (Nat × Value)} {st : List Value} {σ : zSt} (C : zCx G p s m args meth c "VillageWavesModel" cc nL ret) {g o : Nat} {fs : List Value} {v : Value} (hlive : (g, o) ∈ zL G) (he : zct G σ g o = .inr (9, fs)) (hv : fs[17]? = some v) (d : decode cc pc = .ok (.getfield 38, 3)) (kk : zWV G p l e R s m args below meth c nL cells slots Q (pc + 3) lv (v :: st) σ) : zWV G p l e R s m args below meth c nL cells slots Q pc lv (.ref (zad G g o) :: st) σ :=
  z_get C zin_9 rfl 17 (by decide) zq1284 rfl hlive he hv d kk
theorem kl_Model_188 : zLV "VillageWavesModel" 188 "VillageWavesModel" y_Model_isHouse b_Model_isHouse 2 (some .boolean) 1 := ⟨zq1484, zq1486, zq50, zq105, zq1487, rfl, ⟨by decide, by decide, by decide +kernel⟩⟩
theorem kl_Model_191 : zLV "VillageWavesModel" 191 "VillageWavesModel" y_Model_of b_Model_of 3 (some .int) 2 := ⟨zq1492, zq1494, zq51, zq105, zq1495, rfl, ⟨by decide, by decide, by decide +kernel⟩⟩
theorem kl_Model_202 : zLV "VillageWavesModel" 202 "VillageWavesModel" y_Model_isQuietAt b_Model_isQuietAt 5 (some .boolean) 2 := ⟨zq1518, zq1520, zq54, zq105, zq1521, rfl, ⟨by decide, by decide, by decide +kernel⟩⟩
theorem kl_Model_206 : zLV "VillageWavesModel" 206 "VillageWavesModel" y_Model_isQuiet b_Model_isQuiet 2 (some .boolean) 1 := ⟨zq1514, zq1516, zq53, zq105, zq1517, rfl, ⟨by decide, by decide, by decide +kernel⟩⟩
theorem kl_Model_209 : zLV "VillageWavesModel" 209 "VillageWavesModel" y_Model_pair b_Model_pair 4 (some .int) 3 := ⟨zq1542, zq1544, zq60, zq105, zq1545, rfl, ⟨by decide, by decide, by decide +kernel⟩⟩
theorem kl_Model_213 : zLV "VillageWavesModel" 213 "VillageWavesModel" y_Model_entriesOf b_Model_entriesOf 4 (some .int) 1 := ⟨zq1538, zq1540, zq59, zq105, zq1541, rfl, ⟨by decide, by decide, by decide +kernel⟩⟩
theorem kl_Model_216 : zLV "VillageWavesModel" 216 "VillageWavesModel" y_Model_story b_Model_story 3 (some .int) 2 := ⟨zq1530, zq1532, zq57, zq105, zq1533, rfl, ⟨by decide, by decide, by decide +kernel⟩⟩
theorem kl_Model_219 : zLV "VillageWavesModel" 219 "VillageWavesModel" y_Model_isCorrected b_Model_isCorrected 2 (some .boolean) 1 := ⟨zq1526, zq1528, zq56, zq105, zq1529, rfl, ⟨by decide, by decide, by decide +kernel⟩⟩
theorem kl_Model_222 : zLV "VillageWavesModel" 222 "VillageWavesModel" y_Model_quietHouses b_Model_quietHouses 3 (some .int) 0 := ⟨zq1510, zq1512, zq52, zq105, zq1513, rfl, ⟨by decide, by decide, by decide +kernel⟩⟩
theorem kl_Model_225 : zLV "VillageWavesModel" 225 "VillageWavesModel" y_Model_correctedNews b_Model_correctedNews 3 (some .int) 0 := ⟨zq1522, zq1524, zq55, zq105, zq1525, rfl, ⟨by decide, by decide, by decide +kernel⟩⟩
theorem kl_Model_228 : zLV "VillageWavesModel" 228 "VillageWavesModel" y_Model_allEntries b_Model_allEntries 3 (some .int) 0 := ⟨zq1534, zq1536, zq58, zq105, zq1537, rfl, ⟨by decide, by decide, by decide +kernel⟩⟩
theorem kl_Model_231 : zLV "VillageWavesModel" 231 "VillageWavesModel" y_Model_distance b_Model_distance 5 (some .int) 2 := ⟨zq1566, zq1568, zq65, zq105, zq1569, rfl, ⟨by decide, by decide, by decide +kernel⟩⟩
theorem kl_Model_234 : zLV "VillageWavesModel" 234 "VillageWavesModel" y_Model_isInRange b_Model_isInRange 3 (some .boolean) 2 := ⟨zq1562, zq1564, zq64, zq105, zq1565, rfl, ⟨by decide, by decide, by decide +kernel⟩⟩
theorem kl_Model_237 : zLV "VillageWavesModel" 237 "VillageWavesModel" y_Model_knows b_Model_knows 4 (some .boolean) 3 := ⟨zq1554, zq1556, zq62, zq105, zq1557, rfl, ⟨by decide, by decide, by decide +kernel⟩⟩
theorem kl_Model_240 : zLV "VillageWavesModel" 240 "VillageWavesModel" y_Model_newsOf b_Model_newsOf 5 (some .int) 2 := ⟨zq1550, zq1552, zq61, zq105, zq1553, rfl, ⟨by decide, by decide, by decide +kernel⟩⟩
theorem kl_Model_243 : zLV "VillageWavesModel" 243 "VillageWavesModel" y_Model_housesInRange b_Model_housesInRange 4 (some .int) 1 := ⟨zq1558, zq1560, zq63, zq105, zq1561, rfl, ⟨by decide, by decide, by decide +kernel⟩⟩
theorem kl_Model_246 : zLV "VillageWavesModel" 246 "VillageWavesModel" y_Model_isOwed b_Model_isOwed 5 (some .boolean) 3 := ⟨zq1602, zq1604, zq73, zq105, zq1605, rfl, ⟨by decide, by decide, by decide +kernel⟩⟩
theorem kl_Model_249 : zLV "VillageWavesModel" 249 "VillageWavesModel" y_Model_isCorrection b_Model_isCorrection 2 (some .boolean) 1 := ⟨zq1586, zq1588, zq69, zq105, zq1589, rfl, ⟨by decide, by decide, by decide +kernel⟩⟩
theorem kl_Model_252 : zLV "VillageWavesModel" 252 "VillageWavesModel" y_Model_timeOf b_Model_timeOf 3 (some .int) 2 := ⟨zq1590, zq1592, zq70, zq105, zq1593, rfl, ⟨by decide, by decide, by decide +kernel⟩⟩
theorem gf_Model_255 {G : zLA} {p : Program} {l : Launch} {e : Env} {R : Room} {s : State} {m : MethodId} {args : Array Value} {below : List Frame} {meth : Method} {c : Code} {cells slots : Nat} {Q : State → Prop} {cc : ByteArray} {nL : Nat} {ret : Option FieldType} {pc : Nat} {lv : List (Nat × Value)} {st : List Value} {σ : zSt} (C : zCx G p s m args meth c "VillageWavesModel" cc nL ret) {g o : Nat} {fs : List Value} {v : Value} (hlive : (g, o) ∈ zL G) (he : zct G σ g o = .inr (9, fs)) (hv : fs[20]? = some v) (d : decode cc pc = .ok (.getfield 255, 3)) (kk : zWV G p l e R s m args below meth c nL cells slots Q (pc + 3) lv (v :: st) σ) : zWV G p l e R s m args below meth c nL cells slots Q pc lv (.ref (zad G g o) :: st) σ :=
  z_get C zin_9 rfl 20 (by decide) zq1287 rfl hlive he hv d kk
theorem gf_Model_42 {G : zLA} {p : Program} {l : Launch} {e : Env} {R : Room} {s : State} {m : MethodId} {args : Array Value} {below : List Frame} {meth : Method} {c : Code} {cells slots : Nat} {Q : State → Prop} {cc : ByteArray} {nL : Nat} {ret : Option FieldType} {pc : Nat} {lv : List (Nat × Value)} {st : List Value} {σ : zSt} (C : zCx G p s m args meth c "VillageWavesModel" cc nL ret) {g o : Nat} {fs : List Value} {v : Value} (hlive : (g, o) ∈ zL G) (he : zct G σ g o = .inr (9, fs)) (hv : fs[19]? = some v) (d : decode cc pc = .ok (.getfield 42, 3)) (kk : zWV G p l e R s m args below meth c nL cells slots Q (pc + 3) lv (v :: st) σ) : zWV G p l e R s m args below meth c nL cells slots Q pc lv (.ref (zad G g o) :: st) σ :=
  z_get C zin_9 rfl 19 (by decide) zq1286 rfl hlive he hv d kk
theorem pf_Model_255 {G : zLA} {p : Program} {l : Launch} {e : Env} {R : Room} {s : State} {m : MethodId} {args : Array Value} {below : List Frame} {meth : Method} {c : Code} {cells slots : Nat} {Q : State → Prop} {cc : ByteArray} {nL : Nat} {ret : Option FieldType} {pc : Nat} {lv : List (Nat × Value)} {st : List Value} {σ : zSt} (C : zCx G p s m args meth c "VillageWavesModel" cc nL ret) {g o : Nat} {fs : List Value} {v : Int32} (hlive : (g, o) ∈ zL G) (he : zct G σ g o = .inr (9, fs)) (hl0 : 20 < fs.length) (hset : zshp G g o (upd (σ.1 g o) 20 v) (σ.2.1 o) (σ.2.2 o) = .inr (9, fs.set 20 (.int v))) (d : decode cc pc = .ok (.putfield 255, 3)) (kk : zWV G p l e R s m args below meth c nL cells slots Q (pc + 3) lv st (zst σ g o 20 v)) : zWV G p l e R s m args below meth c nL cells slots Q pc lv (.int v :: .ref (zad G g o) :: st) σ :=
  z_put C zin_9 zy9 zn9 rfl 20 (by decide) zq1287 rfl rfl rfl hlive he hl0 hset d kk
theorem kl_Model_258 : zLV "VillageWavesModel" 258 "VillageWavesModel" y_Model_comesAhead b_Model_comesAhead 5 (some .boolean) 3 := ⟨zq1582, zq1584, zq68, zq105, zq1585, rfl, ⟨by decide, by decide, by decide +kernel⟩⟩
theorem kl_Model_261 : zLV "VillageWavesModel" 261 "VillageWavesModel" y_Model_enqueue b_Model_enqueue 4 none 2 := ⟨zq1578, zq1580, zq67, zq105, zq1581, rfl, ⟨by decide, by decide, by decide +kernel⟩⟩
theorem kl_Model_264 : zLV "VillageWavesModel" 264 "VillageWavesModel" y_Model_owedBy b_Model_owedBy 5 (some .int) 2 := ⟨zq1598, zq1600, zq72, zq105, zq1601, rfl, ⟨by decide, by decide, by decide +kernel⟩⟩
theorem kl_Model_267 : zLV "VillageWavesModel" 267 "VillageWavesModel" y_Model_layQueue b_Model_layQueue 3 none 1 := ⟨zq1574, zq1576, zq66, zq105, zq1577, rfl, ⟨by decide, by decide, by decide +kernel⟩⟩
theorem kl_Model_271 : zLV "VillageWavesModel" 271 "VillageWavesModel" y_Model_canSend b_Model_canSend 3 (some .boolean) 2 := ⟨zq1594, zq1596, zq71, zq105, zq1597, rfl, ⟨by decide, by decide, by decide +kernel⟩⟩
theorem kl_Model_274 : zLV "VillageWavesModel" 274 "VillageWavesModel" y_Model_isNews b_Model_isNews 2 (some .boolean) 1 := ⟨zq1610, zq1612, zq74, zq105, zq1613, rfl, ⟨by decide, by decide, by decide +kernel⟩⟩
theorem kl_Model_277 : zLV "VillageWavesModel" 277 "VillageWavesModel" y_Model_housesOf b_Model_housesOf 5 (some .int) 2 := ⟨zq1614, zq1616, zq75, zq105, zq1617, rfl, ⟨by decide, by decide, by decide +kernel⟩⟩
theorem kl_Model_280 : zLV "VillageWavesModel" 280 "VillageWavesModel" y_Model_greatestHops b_Model_greatestHops 4 (some .int) 1 := ⟨zq1618, zq1620, zq76, zq105, zq1621, rfl, ⟨by decide, by decide, by decide +kernel⟩⟩
theorem kl_Model_289 : zLV "VillageWavesModel" 289 "VillageWavesModel" y_Model_learn b_Model_learn 3 none 2 := ⟨zq1642, zq1644, zq77, zq105, zq1645, rfl, ⟨by decide, by decide, by decide +kernel⟩⟩
theorem kl_Model_292 : zLS "VillageWavesModel" 292 y_Model_size b_Model_size 3 (some .int) 1 := ⟨zq1646, zq1647, zq105, zq1648, ⟨by decide, by decide, by decide +kernel⟩⟩
theorem kl_Model_295 : zLV "VillageWavesModel" 295 "VillageWavesModel" y_Model_firstToSend b_Model_firstToSend 3 (some .int) 1 := ⟨zq1677, zq1679, zq84, zq105, zq1680, rfl, ⟨by decide, by decide, by decide +kernel⟩⟩
theorem kl_Model_298 : zLV "VillageWavesModel" 298 "VillageWavesModel" y_Model_isWishing b_Model_isWishing 2 (some .boolean) 1 := ⟨zq1673, zq1675, zq83, zq105, zq1676, rfl, ⟨by decide, by decide, by decide +kernel⟩⟩
theorem kl_Model_307 : zLV "VillageWavesModel" 307 "VillageWavesModel" y_Model_wishing b_Model_wishing 3 (some .int) 0 := ⟨zq1669, zq1671, zq82, zq105, zq1672, rfl, ⟨by decide, by decide, by decide +kernel⟩⟩
theorem kl_Model_310 : zLV "VillageWavesModel" 310 "VillageWavesModel" y_Model_shares b_Model_shares 4 (some .int) 1 := ⟨zq1681, zq1683, zq85, zq105, zq1684, rfl, ⟨by decide, by decide, by decide +kernel⟩⟩
theorem kl_Model_313 : zLV "VillageWavesModel" 313 "VillageWavesModel" y_Model_draw b_Model_draw 2 (some .int) 1 := ⟨zq1685, zq1687, zq86, zq105, zq1688, rfl, ⟨by decide, by decide, by decide +kernel⟩⟩
theorem gf_Model_316 {G : zLA} {p : Program} {l : Launch} {e : Env} {R : Room} {s : State} {m : MethodId} {args : Array Value} {below : List Frame} {meth : Method} {c : Code} {cells slots : Nat} {Q : State → Prop} {cc : ByteArray} {nL : Nat} {ret : Option FieldType} {pc : Nat} {lv : List (Nat × Value)} {st : List Value} {σ : zSt} (C : zCx G p s m args meth c "VillageWavesModel" cc nL ret) {g o : Nat} {fs : List Value} {v : Value} (hlive : (g, o) ∈ zL G) (he : zct G σ g o = .inr (9, fs)) (hv : fs[21]? = some v) (d : decode cc pc = .ok (.getfield 316, 3)) (kk : zWV G p l e R s m args below meth c nL cells slots Q (pc + 3) lv (v :: st) σ) : zWV G p l e R s m args below meth c nL cells slots Q pc lv (.ref (zad G g o) :: st) σ :=
  z_get C zin_9 rfl 21 (by decide) zq1288 rfl hlive he hv d kk
theorem pf_Model_316 {G : zLA} {p : Program} {l : Launch} {e : Env} {R : Room} {s : State} {m : MethodId} {args : Array Value} {below : List Frame} {meth : Method} {c : Code} {cells slots : Nat} {Q : State → Prop} {cc : ByteArray} {nL : Nat} {ret : Option FieldType} {pc : Nat} {lv : List (Nat × Value)} {st : List Value} {σ : zSt} (C : zCx G p s m args meth c "VillageWavesModel" cc nL ret) {g o : Nat} {fs : List Value} {v : Int32} (hlive : (g, o) ∈ zL G) (he : zct G σ g o = .inr (9, fs)) (hl0 : 21 < fs.length) (hset : zshp G g o (upd (σ.1 g o) 21 v) (σ.2.1 o) (σ.2.2 o) = .inr (9, fs.set 21 (.int v))) (d : decode cc pc = .ok (.putfield 316, 3)) (kk : zWV G p l e R s m args below meth c nL cells slots Q (pc + 3) lv st (zst σ g o 21 v)) : zWV G p l e R s m args below meth c nL cells slots Q pc lv (.int v :: .ref (zad G g o) :: st) σ :=
  z_put C zin_9 zy9 zn9 rfl 21 (by decide) zq1288 rfl rfl rfl hlive he hl0 hset d kk
theorem gf_Model_319 {G : zLA} {p : Program} {l : Launch} {e : Env} {R : Room} {s : State} {m : MethodId} {args : Array Value} {below : List Frame} {meth : Method} {c : Code} {cells slots : Nat} {Q : State → Prop} {cc : ByteArray} {nL : Nat} {ret : Option FieldType} {pc : Nat} {lv : List (Nat × Value)} {st : List Value} {σ : zSt} (C : zCx G p s m args meth c "VillageWavesModel" cc nL ret) {g o : Nat} {fs : List Value} {v : Value} (hlive : (g, o) ∈ zL G) (he : zct G σ g o = .inr (9, fs)) (hv : fs[23]? = some v) (d : decode cc pc = .ok (.getfield 319, 3)) (kk : zWV G p l e R s m args below meth c nL cells slots Q (pc + 3) lv (v :: st) σ) : zWV G p l e R s m args below meth c nL cells slots Q pc lv (.ref (zad G g o) :: st) σ :=
  z_get C zin_9 rfl 23 (by decide) zq1290 rfl hlive he hv d kk
theorem pf_Model_319 {G : zLA} {p : Program} {l : Launch} {e : Env} {R : Room} {s : State} {m : MethodId} {args : Array Value} {below : List Frame} {meth : Method} {c : Code} {cells slots : Nat} {Q : State → Prop} {cc : ByteArray} {nL : Nat} {ret : Option FieldType} {pc : Nat} {lv : List (Nat × Value)} {st : List Value} {σ : zSt} (C : zCx G p s m args meth c "VillageWavesModel" cc nL ret) {g o : Nat} {fs : List Value} {v : Int32} (hlive : (g, o) ∈ zL G) (he : zct G σ g o = .inr (9, fs)) (hl0 : 23 < fs.length) (hset : zshp G g o (upd (σ.1 g o) 23 v) (σ.2.1 o) (σ.2.2 o) = .inr (9, fs.set 23 (.int v))) (d : decode cc pc = .ok (.putfield 319, 3)) (kk : zWV G p l e R s m args below meth c nL cells slots Q (pc + 3) lv st (zst σ g o 23 v)) : zWV G p l e R s m args below meth c nL cells slots Q pc lv (.int v :: .ref (zad G g o) :: st) σ :=
  z_put C zin_9 zy9 zn9 rfl 23 (by decide) zq1290 rfl rfl rfl hlive he hl0 hset d kk
theorem kl_Model_325 : zLV "VillageWavesModel" 325 "VillageWavesModel" y_Model_hearNews b_Model_hearNews 5 none 3 := ⟨zq1700, zq1702, zq89, zq105, zq1703, rfl, ⟨by decide, by decide, by decide +kernel⟩⟩
theorem gf_Model_322 {G : zLA} {p : Program} {l : Launch} {e : Env} {R : Room} {s : State} {m : MethodId} {args : Array Value} {below : List Frame} {meth : Method} {c : Code} {cells slots : Nat} {Q : State → Prop} {cc : ByteArray} {nL : Nat} {ret : Option FieldType} {pc : Nat} {lv : List (Nat × Value)} {st : List Value} {σ : zSt} (C : zCx G p s m args meth c "VillageWavesModel" cc nL ret) {g o : Nat} {fs : List Value} {v : Value} (hlive : (g, o) ∈ zL G) (he : zct G σ g o = .inr (9, fs)) (hv : fs[22]? = some v) (d : decode cc pc = .ok (.getfield 322, 3)) (kk : zWV G p l e R s m args below meth c nL cells slots Q (pc + 3) lv (v :: st) σ) : zWV G p l e R s m args below meth c nL cells slots Q pc lv (.ref (zad G g o) :: st) σ :=
  z_get C zin_9 rfl 22 (by decide) zq1289 rfl hlive he hv d kk
theorem pf_Model_322 {G : zLA} {p : Program} {l : Launch} {e : Env} {R : Room} {s : State} {m : MethodId} {args : Array Value} {below : List Frame} {meth : Method} {c : Code} {cells slots : Nat} {Q : State → Prop} {cc : ByteArray} {nL : Nat} {ret : Option FieldType} {pc : Nat} {lv : List (Nat × Value)} {st : List Value} {σ : zSt} (C : zCx G p s m args meth c "VillageWavesModel" cc nL ret) {g o : Nat} {fs : List Value} {v : Int32} (hlive : (g, o) ∈ zL G) (he : zct G σ g o = .inr (9, fs)) (hl0 : 22 < fs.length) (hset : zshp G g o (upd (σ.1 g o) 22 v) (σ.2.1 o) (σ.2.2 o) = .inr (9, fs.set 22 (.int v))) (d : decode cc pc = .ok (.putfield 322, 3)) (kk : zWV G p l e R s m args below meth c nL cells slots Q (pc + 3) lv st (zst σ g o 22 v)) : zWV G p l e R s m args below meth c nL cells slots Q pc lv (.int v :: .ref (zad G g o) :: st) σ :=
  z_put C zin_9 zy9 zn9 rfl 22 (by decide) zq1289 rfl rfl rfl hlive he hl0 hset d kk
theorem kl_Model_331 : zLV "VillageWavesModel" 331 "VillageWavesModel" y_Model_note b_Model_note 6 none 4 := ⟨zq1704, zq1706, zq90, zq105, zq1707, rfl, ⟨by decide, by decide, by decide +kernel⟩⟩
theorem kl_Model_328 : zLV "VillageWavesModel" 328 "VillageWavesModel" y_Model_hear b_Model_hear 5 (some .boolean) 3 := ⟨zq1696, zq1698, zq88, zq105, zq1699, rfl, ⟨by decide, by decide, by decide +kernel⟩⟩
theorem kl_Model_334 : zLV "VillageWavesModel" 334 "VillageWavesModel" y_Model_beginMinute b_Model_beginMinute 3 none 0 := ⟨zq1661, zq1663, zq80, zq105, zq1664, rfl, ⟨by decide, by decide, by decide +kernel⟩⟩
theorem kl_Model_337 : zLV "VillageWavesModel" 337 "VillageWavesModel" y_Model_drawSpeaker b_Model_drawSpeaker 4 (some .int) 0 := ⟨zq1665, zq1667, zq81, zq105, zq1668, rfl, ⟨by decide, by decide, by decide +kernel⟩⟩
theorem kl_Model_343 : zLV "VillageWavesModel" 343 "VillageWavesModel" y_Model_removePaid b_Model_removePaid 3 none 0 := ⟨zq1708, zq1710, zq91, zq105, zq1711, rfl, ⟨by decide, by decide, by decide +kernel⟩⟩
theorem kl_Model_340 : zLV "VillageWavesModel" 340 "VillageWavesModel" y_Model_speak b_Model_speak 6 none 1 := ⟨zq1692, zq1694, zq87, zq105, zq1695, rfl, ⟨by decide, by decide, by decide +kernel⟩⟩
theorem kl_Model_346 : zLV "VillageWavesModel" 346 "VillageWavesModel" y_Model_passMinute b_Model_passMinute 2 none 0 := ⟨zq1657, zq1659, zq79, zq105, zq1660, rfl, ⟨by decide, by decide, by decide +kernel⟩⟩
theorem kl_Model_349 : zLV "VillageWavesModel" 349 "VillageWavesModel" y_Model_passMinutes b_Model_passMinutes 3 none 1 := ⟨zq1653, zq1655, zq78, zq105, zq1656, rfl, ⟨by decide, by decide, by decide +kernel⟩⟩
theorem gf_Model_16 {G : zLA} {p : Program} {l : Launch} {e : Env} {R : Room} {s : State} {m : MethodId} {args : Array Value} {below : List Frame} {meth : Method} {c : Code} {cells slots : Nat} {Q : State → Prop} {cc : ByteArray} {nL : Nat} {ret : Option FieldType} {pc : Nat} {lv : List (Nat × Value)} {st : List Value} {σ : zSt} (C : zCx G p s m args meth c "VillageWavesModel" cc nL ret) {g o : Nat} {fs : List Value} {v : Value} (hlive : (g, o) ∈ zL G) (he : zct G σ g o = .inr (9, fs)) (hv : fs[2]? = some v) (d : decode cc pc = .ok (.getfield 16, 3)) (kk : zWV G p l e R s m args below meth c nL cells slots Q (pc + 3) lv (v :: st) σ) : zWV G p l e R s m args below meth c nL cells slots Q pc lv (.ref (zad G g o) :: st) σ :=
  z_get C zin_9 rfl 2 (by decide) zq1269 rfl hlive he hv d kk
theorem kl_Model_352 : zLV "VillageWavesModel" 352 "VillageWavesModel" y_Model_nearerOnes b_Model_nearerOnes 7 (some .int) 2 := ⟨zq1728, zq1730, zq92, zq105, zq1731, rfl, ⟨by decide, by decide, by decide +kernel⟩⟩
theorem gf_Model_19 {G : zLA} {p : Program} {l : Launch} {e : Env} {R : Room} {s : State} {m : MethodId} {args : Array Value} {below : List Frame} {meth : Method} {c : Code} {cells slots : Nat} {Q : State → Prop} {cc : ByteArray} {nL : Nat} {ret : Option FieldType} {pc : Nat} {lv : List (Nat × Value)} {st : List Value} {σ : zSt} (C : zCx G p s m args meth c "VillageWavesModel" cc nL ret) {g o : Nat} {fs : List Value} {v : Value} (hlive : (g, o) ∈ zL G) (he : zct G σ g o = .inr (9, fs)) (hv : fs[3]? = some v) (d : decode cc pc = .ok (.getfield 19, 3)) (kk : zWV G p l e R s m args below meth c nL cells slots Q (pc + 3) lv (v :: st) σ) : zWV G p l e R s m args below meth c nL cells slots Q pc lv (.ref (zad G g o) :: st) σ :=
  z_get C zin_9 rfl 3 (by decide) zq1270 rfl hlive he hv d kk
theorem gf_Model_22 {G : zLA} {p : Program} {l : Launch} {e : Env} {R : Room} {s : State} {m : MethodId} {args : Array Value} {below : List Frame} {meth : Method} {c : Code} {cells slots : Nat} {Q : State → Prop} {cc : ByteArray} {nL : Nat} {ret : Option FieldType} {pc : Nat} {lv : List (Nat × Value)} {st : List Value} {σ : zSt} (C : zCx G p s m args meth c "VillageWavesModel" cc nL ret) {g o : Nat} {fs : List Value} {v : Value} (hlive : (g, o) ∈ zL G) (he : zct G σ g o = .inr (9, fs)) (hv : fs[4]? = some v) (d : decode cc pc = .ok (.getfield 22, 3)) (kk : zWV G p l e R s m args below meth c nL cells slots Q (pc + 3) lv (v :: st) σ) : zWV G p l e R s m args below meth c nL cells slots Q pc lv (.ref (zad G g o) :: st) σ :=
  z_get C zin_9 rfl 4 (by decide) zq1271 rfl hlive he hv d kk
