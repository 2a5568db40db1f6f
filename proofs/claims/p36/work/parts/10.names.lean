/-- enough steps for every loop of one call -/
def zK : Nat := 100000
theorem zin_of {ws : List Cond} (is : List Nat) (h : ws = is.filterMap (fun i => lw_tbl[i]?)) (hg : ws.all goodWord = true) : ∀ w ∈ ws, w ∈ zGW := by
  intro w hw
  have h1 := List.all_eq_true.mp hg w hw
  rw [h] at hw
  obtain ⟨i, -, hi⟩ := List.mem_filterMap.mp hw
  exact zgw i hi h1
theorem znb {v : Int32} (h : v = 0 ∨ v = 1) : narrow .boolean (.int v) = .int v := by rcases h with rfl | rfl <;> rfl
/-- a row's two cells -/
def zrow (G : zLA) (g o : Nat) : Prop := (g, o) ∈ zL G ∧ (g, o + 1) ∈ zL G ∧ (∀ (G : zLA) (f : Nat → Int32) (w : Int64) (d : UInt64), zshp G g o f w d = .inr (4, [.ref (zad G g (o + 1))])) ∧ (∀ (G : zLA) (f : Nat → Int32) (w : Int64) (d : UInt64), zshp G g (o + 1) f w d = .inl (zaC G 0, zrl (o + 1), .inl f))
def zarr (G : zLA) (g o : Nat) : Prop := (g, o) ∈ zL G ∧ (∀ (G : zLA) (f : Nat → Int32) (w : Int64) (d : UInt64), zshp G g o f w d = .inl (zaC G 0, zrl o, .inl f))
def zent (o : Nat) : Prop := o = 43 ∨ o = 48
/-- a village's cells are there -/
def zvl (G : zLA) (v : Nat) : Prop := ∀ o, o < 62 → (v, o) ∈ zL G
/-- the class's own cells are there; the model's -/
def zxl (G : zLA) : Prop := (∀ o, 70 ≤ o → o ≤ 74 → (4, o) ∈ zL G) ∧ ∀ v, v < 4 → zvl G v
def zml (G : zLA) : Prop := (4, 80) ∈ zL G
theorem zlv {G : zLA} {v : Nat} (hv : zvl G v) (o : Nat) (ho : Nat.ble (o + 1) 62 = true) : (v, o) ∈ zL G := hv o (Nat.le_of_ble_eq_true ho)
theorem zx4 {G : zLA} (hx : zxl G) (o : Nat) (ho : (Nat.ble 70 o && Nat.ble o 74) = true) : (4, o) ∈ zL G := by
  simp only [Bool.and_eq_true] at ho
  exact hx.1 o (Nat.le_of_ble_eq_true ho.1) (Nat.le_of_ble_eq_true ho.2)
theorem zxv {G : zLA} (hx : zxl G) (v : Nat) (hv : Nat.ble (v + 1) 4 = true) : zvl G v := hx.2 v (Nat.le_of_ble_eq_true hv)
def zisr (o : Nat) : Bool := zrows.contains o
theorem zrow_shp {g o : Nat} (h : zisr o = true) : (∀ (G : zLA) (f : Nat → Int32) (w : Int64) (d : UInt64), zshp G g o f w d = .inr (4, [.ref (zad G g (o + 1))])) ∧ (∀ (G : zLA) (f : Nat → Int32) (w : Int64) (d : UInt64), zshp G g (o + 1) f w d = .inl (zaC G 0, zrl (o + 1), .inl f)) := by
  have h1 : o ∈ zrows := List.contains_iff_mem.mp h
  simp only [zrows, List.mem_cons, List.not_mem_nil, or_false] at h1
  rcases h1 with rfl | rfl | rfl | rfl | rfl | rfl | rfl | rfl | rfl | rfl | rfl | rfl | rfl | rfl | rfl | rfl | rfl | rfl | rfl | rfl | rfl | rfl | rfl | rfl | rfl | rfl | rfl | rfl | rfl <;> exact ⟨fun _ _ _ _ => rfl, fun _ _ _ _ => rfl⟩
theorem zrow_v {G : zLA} {v : Nat} (hv : zvl G v) (o : Nat) (ho : (zisr o && Nat.ble (o + 2) 62) = true) : zrow G v o := by
  simp only [Bool.and_eq_true] at ho
  have h2 : o + 2 ≤ 62 := Nat.le_of_ble_eq_true ho.2
  exact ⟨hv o (by omega), hv (o + 1) (by omega), (zrow_shp ho.1).1, (zrow_shp ho.1).2⟩
theorem zrow4_73 {G : zLA} (hx : zxl G) : zrow G 4 73 := ⟨zx4 hx 73 rfl, zx4 hx 74 rfl, fun _ _ _ _ => rfl, fun _ _ _ _ => rfl⟩
theorem zent_in {G : zLA} {v o : Nat} (hv : zvl G v) (ho : zent o) (k : Nat) (hk : Nat.ble k 4 = true) : (v, o + k) ∈ zL G := by
  have hk : k ≤ 4 := Nat.le_of_ble_eq_true hk
  rcases ho with rfl | rfl <;> exact hv _ (by omega)
theorem zent_row {G : zLA} {v o : Nat} (hv : zvl G v) (ho : zent o) (k : Nat) (hk : (Nat.beq k 1 || Nat.beq k 3) = true) : zrow G v (o + k) := by
  have hk : k = 1 ∨ k = 3 := by
    rcases Bool.or_eq_true _ _ ▸ hk with h | h
    · exact Or.inl (Nat.eq_of_beq_eq_true h)
    · exact Or.inr (Nat.eq_of_beq_eq_true h)
  rcases ho with rfl | rfl <;> rcases hk with rfl | rfl <;> exact zrow_v hv _ rfl
theorem zent_shp {o : Nat} (ho : zent o) (G : zLA) (g : Nat) (f : Nat → Int32) (w : Int64) (d : UInt64) : zshp G g o f w d = .inr (0, [.ref (zad G g (o + 1)), .ref (zad G g (o + 3))]) := by
  rcases ho with rfl | rfl <;> rfl
theorem zmmax_s : Cond.static Lib.Math.max.name ∈ zGW := zgw 74 (by decide +kernel) (by decide +kernel)
theorem zmmax_c : Cond.code Lib.Math.max.name Lib.Math.max.code 2 (some .int) ∈ zGW := zgw 75 (by decide +kernel) (by decide +kernel)
theorem zm_i : Cond.initialized "java/lang/Math" ∈ zGW := zgw 31 (by decide +kernel) (by decide +kernel)
theorem z_mmax {G : zLA} {p : Program} {l : Launch} {e : Env} {R : Room} {s : State} {m : MethodId} {args : Array Value} {below : List Frame} {meth : Method} {c : Code} {cells slots : Nat} {Q : State → Prop} {own : String} {cc : ByteArray} {nL : Nat} {ret : Option FieldType} {pc : Nat} {lv : List (Nat × Value)} {st : List Value} {σ : zSt} (C : zCx G p s m args meth c own cc nL ret) {index : Nat} {y0 : MethodName} (hlink : Cond.methodLink own index y0 ∈ zGW) (hy : y0 = Lib.Math.max.name) (hrest : (st.map fun v => v.category).sum ≤ 8) (hframes : 1 ≤ R.frames) (hlocals : 21 ≤ R.locals) (hc : cells ≤ R.cells) (hs : slots ≤ R.slots) {x y : Int32} (d : decode cc pc = .ok (.invokestatic index, 3)) (kk : zWV G p l e R s m args below meth c nL cells slots Q (pc + 3) lv (.int (if x < y then y else x) :: st) σ) : zWV G p l e R s m args below meth c nL cells slots Q pc lv (.int y :: .int x :: st) σ := by
  subst hy
  exact fun ls H locs hl hP hD hS => va_mmax C.x C.b (C.n.trans hl.1.symm) C.o (C.t _ hlink) (C.t _ zmmax_s) (C.t _ zm_i) (C.t _ zmmax_c) hframes (by omega) hc hs d (kk ls H locs hl hP hD hS)
theorem zmmin_s : Cond.static Lib.Math.min.name ∈ zGW := zgw 767 (by decide +kernel) (by decide +kernel)
theorem zmmin_c : Cond.code Lib.Math.min.name Lib.Math.min.code 2 (some .int) ∈ zGW := zgw 768 (by decide +kernel) (by decide +kernel)
theorem z_mmin {G : zLA} {p : Program} {l : Launch} {e : Env} {R : Room} {s : State} {m : MethodId} {args : Array Value} {below : List Frame} {meth : Method} {c : Code} {cells slots : Nat} {Q : State → Prop} {own : String} {cc : ByteArray} {nL : Nat} {ret : Option FieldType} {pc : Nat} {lv : List (Nat × Value)} {st : List Value} {σ : zSt} (C : zCx G p s m args meth c own cc nL ret) {index : Nat} {y0 : MethodName} (hlink : Cond.methodLink own index y0 ∈ zGW) (hy : y0 = Lib.Math.min.name) (hrest : (st.map fun v => v.category).sum ≤ 8) (hframes : 1 ≤ R.frames) (hlocals : 21 ≤ R.locals) (hc : cells ≤ R.cells) (hs : slots ≤ R.slots) {x y : Int32} (d : decode cc pc = .ok (.invokestatic index, 3)) (kk : zWV G p l e R s m args below meth c nL cells slots Q (pc + 3) lv (.int (if y < x then y else x) :: st) σ) : zWV G p l e R s m args below meth c nL cells slots Q pc lv (.int y :: .int x :: st) σ := by
  subst hy
  exact fun ls H locs hl hP hD hS => va_mmin C.x C.b (C.n.trans hl.1.symm) C.o (C.t _ hlink) (C.t _ zmmin_s) (C.t _ zm_i) (C.t _ zmmin_c) hframes (by omega) hc hs d (kk ls H locs hl hP hD hS)

theorem zin_0 : ∀ w ∈ u_ws "VillageWaves$Entries" zT0 2, w ∈ zGW := zin_of [207, 209] (by decide +kernel) (by decide +kernel)
theorem zin_1 : ∀ w ∈ u_ws "VillageWaves$Homes" zT1 11, w ∈ zGW := zin_of [117, 119, 121, 123, 125, 127, 129, 131, 133, 135, 137] (by decide +kernel) (by decide +kernel)
theorem zin_2 : ∀ w ∈ u_ws "VillageWaves$Journal" zT2 2, w ∈ zGW := zin_of [223, 225] (by decide +kernel) (by decide +kernel)
theorem zin_3 : ∀ w ∈ u_ws "VillageWaves$Reader" zT3 3, w ∈ zGW := zin_of [352, 354, 356] (by decide +kernel) (by decide +kernel)
theorem zin_4 : ∀ w ∈ u_ws "VillageWaves$Row" zT4 1, w ∈ zGW := zin_of [77] (by decide +kernel) (by decide +kernel)
theorem zin_5 : ∀ w ∈ u_ws "VillageWaves$Text" zT5 6, w ∈ zGW := zin_of [336, 338, 340, 342, 344, 346] (by decide +kernel) (by decide +kernel)
theorem zin_6 : ∀ w ∈ u_ws "VillageWaves$Tidings" zT6 10, w ∈ zGW := zin_of [175, 177, 179, 181, 183, 185, 187, 189, 191, 193] (by decide +kernel) (by decide +kernel)
theorem zin_7 : ∀ w ∈ u_ws "VillageWaves$Village" zT7 13, w ∈ zGW := zin_of [289, 291, 293, 295, 297, 299, 301, 303, 305, 307, 309, 311, 313] (by decide +kernel) (by decide +kernel)
theorem zin_8 : ∀ w ∈ u_ws "VillageWaves" zT8 6, w ∈ zGW := zin_of [365, 367, 369, 371, 373, 375] (by decide +kernel) (by decide +kernel)
theorem zin_9 : ∀ w ∈ u_ws "VillageWavesLaw" zT9 3, w ∈ zGW := zin_of [381, 383, 385] (by decide +kernel) (by decide +kernel)
theorem zkb_m102 : (Int8.ofInt (-102)).toInt32 = (-102 : Int32) := by decide
theorem zkb_m4 : (Int8.ofInt (-4)).toInt32 = (-4 : Int32) := by decide
theorem zkb_m3 : (Int8.ofInt (-3)).toInt32 = (-3 : Int32) := by decide
theorem zkb_m2 : (Int8.ofInt (-2)).toInt32 = (-2 : Int32) := by decide
theorem zkb_6 : (Int8.ofInt 6).toInt32 = (6 : Int32) := by decide
theorem zkb_7 : (Int8.ofInt 7).toInt32 = (7 : Int32) := by decide
theorem zkb_8 : (Int8.ofInt 8).toInt32 = (8 : Int32) := by decide
theorem zkb_9 : (Int8.ofInt 9).toInt32 = (9 : Int32) := by decide
theorem zkb_10 : (Int8.ofInt 10).toInt32 = (10 : Int32) := by decide
theorem zkb_11 : (Int8.ofInt 11).toInt32 = (11 : Int32) := by decide
theorem zkb_12 : (Int8.ofInt 12).toInt32 = (12 : Int32) := by decide
theorem zkb_13 : (Int8.ofInt 13).toInt32 = (13 : Int32) := by decide
theorem zkb_14 : (Int8.ofInt 14).toInt32 = (14 : Int32) := by decide
theorem zkb_15 : (Int8.ofInt 15).toInt32 = (15 : Int32) := by decide
theorem zkb_16 : (Int8.ofInt 16).toInt32 = (16 : Int32) := by decide
theorem zkb_17 : (Int8.ofInt 17).toInt32 = (17 : Int32) := by decide
theorem zkb_19 : (Int8.ofInt 19).toInt32 = (19 : Int32) := by decide
theorem zkb_20 : (Int8.ofInt 20).toInt32 = (20 : Int32) := by decide
theorem zkb_23 : (Int8.ofInt 23).toInt32 = (23 : Int32) := by decide
theorem zkb_30 : (Int8.ofInt 30).toInt32 = (30 : Int32) := by decide
theorem zkb_40 : (Int8.ofInt 40).toInt32 = (40 : Int32) := by decide
theorem zkb_48 : (Int8.ofInt 48).toInt32 = (48 : Int32) := by decide
theorem zkb_60 : (Int8.ofInt 60).toInt32 = (60 : Int32) := by decide
theorem zkb_63 : (Int8.ofInt 63).toInt32 = (63 : Int32) := by decide
theorem zkb_90 : (Int8.ofInt 90).toInt32 = (90 : Int32) := by decide
theorem zkb_99 : (Int8.ofInt 99).toInt32 = (99 : Int32) := by decide
theorem zkb_100 : (Int8.ofInt 100).toInt32 = (100 : Int32) := by decide
theorem zki_m1 : Int32.ofInt (-1) = (-1 : Int32) := by decide
theorem zki_0 : Int32.ofInt 0 = (0 : Int32) := by decide
theorem zki_1 : Int32.ofInt 1 = (1 : Int32) := by decide
theorem zki_2 : Int32.ofInt 2 = (2 : Int32) := by decide
theorem zki_3 : Int32.ofInt 3 = (3 : Int32) := by decide
theorem zki_4 : Int32.ofInt 4 = (4 : Int32) := by decide
theorem zki_5 : Int32.ofInt 5 = (5 : Int32) := by decide
theorem zks_m999 : (Int16.ofInt (-999)).toInt32 = (-999 : Int32) := by decide
theorem zks_150 : (Int16.ofInt 150).toInt32 = (150 : Int32) := by decide
theorem zks_200 : (Int16.ofInt 200).toInt32 = (200 : Int32) := by decide
theorem zks_500 : (Int16.ofInt 500).toInt32 = (500 : Int32) := by decide
theorem zks_501 : (Int16.ofInt 501).toInt32 = (501 : Int32) := by decide
theorem zks_512 : (Int16.ofInt 512).toInt32 = (512 : Int32) := by decide
theorem zks_900 : (Int16.ofInt 900).toInt32 = (900 : Int32) := by decide
theorem zks_999 : (Int16.ofInt 999).toInt32 = (999 : Int32) := by decide
theorem zks_1103 : (Int16.ofInt 1103).toInt32 = (1103 : Int32) := by decide
theorem zks_12345 : (Int16.ofInt 12345).toInt32 = (12345 : Int32) := by decide
abbrev b_Integer_bitCount : ByteArray := prog_16_method_49_code
abbrev y_Integer_bitCount : MethodName := ⟨"java/lang/Integer", "bitCount", "(I)I"⟩
abbrev b_Row_get : ByteArray := prog_6_method_2_code
abbrev y_Row_get : MethodName := ⟨"VillageWaves$Row", "get", "(I)I"⟩
abbrev b_Row_put : ByteArray := prog_6_method_3_code
abbrev y_Row_put : MethodName := ⟨"VillageWaves$Row", "put", "(II)V"⟩
abbrev b_Row_add : ByteArray := prog_6_method_4_code
abbrev y_Row_add : MethodName := ⟨"VillageWaves$Row", "add", "(II)V"⟩
abbrev b_Row_join : ByteArray := prog_6_method_5_code
abbrev y_Row_join : MethodName := ⟨"VillageWaves$Row", "join", "(II)V"⟩
abbrev b_Row_leave : ByteArray := prog_6_method_6_code
abbrev y_Row_leave : MethodName := ⟨"VillageWaves$Row", "leave", "(II)V"⟩
abbrev b_Arrays_fill : ByteArray := prog_22_method_103_code
abbrev y_Arrays_fill : MethodName := ⟨"java/util/Arrays", "fill", "([II)V"⟩
abbrev b_Row_fill : ByteArray := prog_6_method_7_code
abbrev y_Row_fill : MethodName := ⟨"VillageWaves$Row", "fill", "(I)V"⟩
abbrev b_Row_copyFrom : ByteArray := prog_6_method_8_code
abbrev y_Row_copyFrom : MethodName := ⟨"VillageWaves$Row", "copyFrom", "(LVillageWaves$Row;)V"⟩
abbrev b_Waves_bit : ByteArray := prog_1_method_43_code
abbrev y_Waves_bit : MethodName := ⟨"VillageWaves", "bit", "(I)I"⟩
abbrev b_Waves_contains : ByteArray := prog_1_method_44_code
abbrev y_Waves_contains : MethodName := ⟨"VillageWaves", "contains", "(II)Z"⟩
abbrev b_Waves_cell : ByteArray := prog_1_method_45_code
abbrev y_Waves_cell : MethodName := ⟨"VillageWaves", "cell", "(II)I"⟩
abbrev b_Waves_element : ByteArray := prog_1_method_46_code
abbrev y_Waves_element : MethodName := ⟨"VillageWaves", "element", "([II)I"⟩
abbrev b_Journal_clear : ByteArray := prog_4_method_2_code
abbrev y_Journal_clear : MethodName := ⟨"VillageWaves$Journal", "clear", "()V"⟩
abbrev b_Journal_copyFrom : ByteArray := prog_4_method_3_code
abbrev y_Journal_copyFrom : MethodName := ⟨"VillageWaves$Journal", "copyFrom", "(LVillageWaves$Journal;)V"⟩
abbrev b_Journal_add : ByteArray := prog_4_method_4_code
abbrev y_Journal_add : MethodName := ⟨"VillageWaves$Journal", "add", "(IIIIII)V"⟩
abbrev b_Journal_fact : ByteArray := prog_4_method_5_code
abbrev y_Journal_fact : MethodName := ⟨"VillageWaves$Journal", "fact", "(II)I"⟩
abbrev b_Entries_clear : ByteArray := prog_2_method_2_code
abbrev y_Entries_clear : MethodName := ⟨"VillageWaves$Entries", "clear", "()V"⟩
abbrev b_Entries_copyFrom : ByteArray := prog_2_method_3_code
abbrev y_Entries_copyFrom : MethodName := ⟨"VillageWaves$Entries", "copyFrom", "(LVillageWaves$Entries;)V"⟩
abbrev b_Entries_put : ByteArray := prog_2_method_4_code
abbrev y_Entries_put : MethodName := ⟨"VillageWaves$Entries", "put", "(III)V"⟩
abbrev b_Entries_remove : ByteArray := prog_2_method_5_code
abbrev y_Entries_remove : MethodName := ⟨"VillageWaves$Entries", "remove", "(II)V"⟩
abbrev b_Entries_time : ByteArray := prog_2_method_6_code
abbrev y_Entries_time : MethodName := ⟨"VillageWaves$Entries", "time", "(II)I"⟩
abbrev b_Entries_size : ByteArray := prog_2_method_7_code
abbrev y_Entries_size : MethodName := ⟨"VillageWaves$Entries", "size", "(I)I"⟩
abbrev b_Entries_total : ByteArray := prog_2_method_8_code
abbrev y_Entries_total : MethodName := ⟨"VillageWaves$Entries", "total", "()I"⟩
abbrev b_Entries_first : ByteArray := prog_2_method_9_code
abbrev y_Entries_first : MethodName := ⟨"VillageWaves$Entries", "first", "(II)I"⟩
abbrev b_Entries_at : ByteArray := prog_2_method_10_code
abbrev y_Entries_at : MethodName := ⟨"VillageWaves$Entries", "at", "(II)I"⟩
abbrev b_Tidings_clear : ByteArray := prog_8_method_2_code
abbrev y_Tidings_clear : MethodName := ⟨"VillageWaves$Tidings", "clear", "()V"⟩
abbrev b_Tidings_copyFrom : ByteArray := prog_8_method_3_code
abbrev y_Tidings_copyFrom : MethodName := ⟨"VillageWaves$Tidings", "copyFrom", "(LVillageWaves$Tidings;)V"⟩
abbrev b_Tidings_isFull : ByteArray := prog_8_method_4_code
abbrev y_Tidings_isFull : MethodName := ⟨"VillageWaves$Tidings", "isFull", "()Z"⟩
abbrev b_Tidings_add : ByteArray := prog_8_method_5_code
abbrev y_Tidings_add : MethodName := ⟨"VillageWaves$Tidings", "add", "(III)I"⟩
abbrev b_Tidings_isCorrected : ByteArray := prog_8_method_6_code
abbrev y_Tidings_isCorrected : MethodName := ⟨"VillageWaves$Tidings", "isCorrected", "(I)Z"⟩
abbrev b_Tidings_correctedNumber : ByteArray := prog_8_method_7_code
abbrev y_Tidings_correctedNumber : MethodName := ⟨"VillageWaves$Tidings", "correctedNumber", "()I"⟩
abbrev b_Tidings_isHeardOf : ByteArray := prog_8_method_8_code
abbrev y_Tidings_isHeardOf : MethodName := ⟨"VillageWaves$Tidings", "isHeardOf", "(II)Z"⟩
abbrev b_Tidings_uncorrectedHouses : ByteArray := prog_8_method_9_code
abbrev y_Tidings_uncorrectedHouses : MethodName := ⟨"VillageWaves$Tidings", "uncorrectedHouses", "(I)I"⟩
abbrev b_Tidings_newsKnownAt : ByteArray := prog_8_method_10_code
abbrev y_Tidings_newsKnownAt : MethodName := ⟨"VillageWaves$Tidings", "newsKnownAt", "(I)I"⟩
abbrev b_Tidings_correctionsKnownAt : ByteArray := prog_8_method_11_code
abbrev y_Tidings_correctionsKnownAt : MethodName := ⟨"VillageWaves$Tidings", "correctionsKnownAt", "(I)I"⟩
abbrev b_Tidings_uncorrectedAt : ByteArray := prog_8_method_12_code
abbrev y_Tidings_uncorrectedAt : MethodName := ⟨"VillageWaves$Tidings", "uncorrectedAt", "(I)I"⟩
abbrev b_Homes_clear : ByteArray := prog_3_method_2_code
abbrev y_Homes_clear : MethodName := ⟨"VillageWaves$Homes", "clear", "()V"⟩
abbrev b_Homes_copyFrom : ByteArray := prog_3_method_3_code
abbrev y_Homes_copyFrom : MethodName := ⟨"VillageWaves$Homes", "copyFrom", "(LVillageWaves$Homes;)V"⟩
abbrev b_Homes_isFull : ByteArray := prog_3_method_4_code
abbrev y_Homes_isFull : MethodName := ⟨"VillageWaves$Homes", "isFull", "()Z"⟩
abbrev b_Homes_distance : ByteArray := prog_3_method_7_code
abbrev y_Homes_distance : MethodName := ⟨"VillageWaves$Homes", "distance", "(II)I"⟩
abbrev b_Homes_noteRange : ByteArray := prog_3_method_6_code
abbrev y_Homes_noteRange : MethodName := ⟨"VillageWaves$Homes", "noteRange", "(II)V"⟩
abbrev b_Homes_add : ByteArray := prog_3_method_5_code
abbrev y_Homes_add : MethodName := ⟨"VillageWaves$Homes", "add", "(IIIII)I"⟩
abbrev b_Homes_addToBattery : ByteArray := prog_3_method_8_code
abbrev y_Homes_addToBattery : MethodName := ⟨"VillageWaves$Homes", "addToBattery", "(II)V"⟩
abbrev b_Homes_beginDay : ByteArray := prog_3_method_9_code
abbrev y_Homes_beginDay : MethodName := ⟨"VillageWaves$Homes", "beginDay", "(I)V"⟩
abbrev b_Homes_isQuiet : ByteArray := prog_3_method_10_code
abbrev y_Homes_isQuiet : MethodName := ⟨"VillageWaves$Homes", "isQuiet", "(II)Z"⟩
abbrev b_Homes_quietAt : ByteArray := prog_3_method_11_code
abbrev y_Homes_quietAt : MethodName := ⟨"VillageWaves$Homes", "quietAt", "(I)I"⟩
abbrev b_Homes_sharesOf : ByteArray := prog_3_method_12_code
abbrev y_Homes_sharesOf : MethodName := ⟨"VillageWaves$Homes", "sharesOf", "(I)I"⟩
abbrev b_Village_clear : ByteArray := prog_9_method_2_code
abbrev y_Village_clear : MethodName := ⟨"VillageWaves$Village", "clear", "()V"⟩
abbrev b_Village_copyFrom : ByteArray := prog_9_method_3_code
abbrev y_Village_copyFrom : MethodName := ⟨"VillageWaves$Village", "copyFrom", "(LVillageWaves$Village;)V"⟩
abbrev b_Village_minuteOfDay : ByteArray := prog_9_method_4_code
abbrev y_Village_minuteOfDay : MethodName := ⟨"VillageWaves$Village", "minuteOfDay", "()I"⟩
abbrev b_Village_addNews : ByteArray := prog_9_method_5_code
abbrev y_Village_addNews : MethodName := ⟨"VillageWaves$Village", "addNews", "(II)I"⟩
abbrev b_Village_owedBy : ByteArray := prog_9_method_7_code
abbrev y_Village_owedBy : MethodName := ⟨"VillageWaves$Village", "owedBy", "(II)I"⟩
abbrev b_Village_learnCorrection : ByteArray := prog_9_method_20_code
abbrev y_Village_learnCorrection : MethodName := ⟨"VillageWaves$Village", "learnCorrection", "(II)V"⟩
abbrev b_Village_addCorrection : ByteArray := prog_9_method_6_code
abbrev y_Village_addCorrection : MethodName := ⟨"VillageWaves$Village", "addCorrection", "(III)V"⟩
abbrev b_Village_sendableCorrections : ByteArray := prog_9_method_8_code
abbrev y_Village_sendableCorrections : MethodName := ⟨"VillageWaves$Village", "sendableCorrections", "(I)I"⟩
abbrev b_Village_beginDay : ByteArray := prog_9_method_11_code
abbrev y_Village_beginDay : MethodName := ⟨"VillageWaves$Village", "beginDay", "()V"⟩
abbrev b_Village_maySpeak : ByteArray := prog_9_method_13_code
abbrev y_Village_maySpeak : MethodName := ⟨"VillageWaves$Village", "maySpeak", "(II)Z"⟩
abbrev b_Village_wishing : ByteArray := prog_9_method_12_code
abbrev y_Village_wishing : MethodName := ⟨"VillageWaves$Village", "wishing", "()I"⟩
abbrev b_Village_draw : ByteArray := prog_9_method_15_code
abbrev y_Village_draw : MethodName := ⟨"VillageWaves$Village", "draw", "(I)I"⟩
abbrev b_Village_drawnOf : ByteArray := prog_9_method_14_code
abbrev y_Village_drawnOf : MethodName := ⟨"VillageWaves$Village", "drawnOf", "(I)I"⟩
abbrev b_Village_spendOnAir : ByteArray := prog_9_method_16_code
abbrev y_Village_spendOnAir : MethodName := ⟨"VillageWaves$Village", "spendOnAir", "(I)I"⟩
abbrev b_Village_dropSettledEntries : ByteArray := prog_9_method_21_code
abbrev y_Village_dropSettledEntries : MethodName := ⟨"VillageWaves$Village", "dropSettledEntries", "(I)V"⟩
abbrev b_Village_sendCorrection : ByteArray := prog_9_method_19_code
abbrev y_Village_sendCorrection : MethodName := ⟨"VillageWaves$Village", "sendCorrection", "(III)V"⟩
abbrev b_Village_getNews : ByteArray := prog_9_method_18_code
abbrev y_Village_getNews : MethodName := ⟨"VillageWaves$Village", "getNews", "(IIII)V"⟩
abbrev b_Village_sendNews : ByteArray := prog_9_method_17_code
abbrev y_Village_sendNews : MethodName := ⟨"VillageWaves$Village", "sendNews", "(III)V"⟩
abbrev b_Village_minute : ByteArray := prog_9_method_10_code
abbrev y_Village_minute : MethodName := ⟨"VillageWaves$Village", "minute", "()V"⟩
abbrev b_Village_pass : ByteArray := prog_9_method_9_code
abbrev y_Village_pass : MethodName := ⟨"VillageWaves$Village", "pass", "(I)V"⟩
abbrev b_Waves_checkWithin : ByteArray := prog_1_method_37_code
abbrev y_Waves_checkWithin : MethodName := ⟨"VillageWaves", "checkWithin", "(III)V"⟩
abbrev b_Waves_addHouse : ByteArray := prog_1_method_7_code
abbrev y_Waves_addHouse : MethodName := ⟨"VillageWaves", "addHouse", "(IIIII)I"⟩
abbrev b_Waves_checkHouse : ByteArray := prog_1_method_35_code
abbrev y_Waves_checkHouse : MethodName := ⟨"VillageWaves", "checkHouse", "(I)V"⟩
abbrev b_Waves_setQuiet : ByteArray := prog_1_method_8_code
abbrev y_Waves_setQuiet : MethodName := ⟨"VillageWaves", "setQuiet", "(III)V"⟩
abbrev b_Waves_charge : ByteArray := prog_1_method_9_code
abbrev y_Waves_charge : MethodName := ⟨"VillageWaves", "charge", "(II)I"⟩
abbrev b_Waves_set : ByteArray := prog_1_method_10_code
abbrev y_Waves_set : MethodName := ⟨"VillageWaves", "set", "(II)I"⟩
abbrev b_Waves_seed : ByteArray := prog_1_method_11_code
abbrev y_Waves_seed : MethodName := ⟨"VillageWaves", "seed", "(I)V"⟩
abbrev b_Waves_count : ByteArray := prog_1_method_12_code
abbrev y_Waves_count : MethodName := ⟨"VillageWaves", "count", "(I)I"⟩
abbrev b_Waves_house : ByteArray := prog_1_method_13_code
abbrev y_Waves_house : MethodName := ⟨"VillageWaves", "house", "(II)I"⟩
abbrev b_Waves_correctionEntryFact : ByteArray := prog_1_method_39_code
abbrev y_Waves_correctionEntryFact : MethodName := ⟨"VillageWaves", "correctionEntryFact", "(III)I"⟩
abbrev b_Waves_newsEntryFact : ByteArray := prog_1_method_40_code
abbrev y_Waves_newsEntryFact : MethodName := ⟨"VillageWaves", "newsEntryFact", "(III)I"⟩
abbrev b_Waves_entry : ByteArray := prog_1_method_14_code
abbrev y_Waves_entry : MethodName := ⟨"VillageWaves", "entry", "(III)I"⟩
abbrev b_Waves_checkNews : ByteArray := prog_1_method_36_code
abbrev y_Waves_checkNews : MethodName := ⟨"VillageWaves", "checkNews", "(I)V"⟩
abbrev b_Waves_news : ByteArray := prog_1_method_15_code
abbrev y_Waves_news : MethodName := ⟨"VillageWaves", "news", "(II)I"⟩
abbrev b_Waves_source : ByteArray := prog_1_method_16_code
abbrev y_Waves_source : MethodName := ⟨"VillageWaves", "source", "(II)I"⟩
abbrev b_Waves_owes : ByteArray := prog_1_method_17_code
abbrev y_Waves_owes : MethodName := ⟨"VillageWaves", "owes", "(II)I"⟩
abbrev b_Waves_spoken : ByteArray := prog_1_method_18_code
abbrev y_Waves_spoken : MethodName := ⟨"VillageWaves", "spoken", "(II)I"⟩
abbrev b_Waves_tell : ByteArray := prog_1_method_19_code
abbrev y_Waves_tell : MethodName := ⟨"VillageWaves", "tell", "(II)I"⟩
abbrev b_Waves_correct : ByteArray := prog_1_method_20_code
abbrev y_Waves_correct : MethodName := ⟨"VillageWaves", "correct", "(III)I"⟩
abbrev b_Waves_run : ByteArray := prog_1_method_21_code
abbrev y_Waves_run : MethodName := ⟨"VillageWaves", "run", "(I)I"⟩
abbrev b_Waves_wishingInDraft : ByteArray := prog_1_method_38_code
abbrev y_Waves_wishingInDraft : MethodName := ⟨"VillageWaves", "wishingInDraft", "()I"⟩
abbrev b_Waves_wishes : ByteArray := prog_1_method_22_code
abbrev y_Waves_wishes : MethodName := ⟨"VillageWaves", "wishes", "()I"⟩
abbrev b_Waves_next : ByteArray := prog_1_method_23_code
abbrev y_Waves_next : MethodName := ⟨"VillageWaves", "next", "()I"⟩
abbrev b_Waves_chance : ByteArray := prog_1_method_24_code
abbrev y_Waves_chance : MethodName := ⟨"VillageWaves", "chance", "(I)D"⟩
abbrev b_Waves_reached : ByteArray := prog_1_method_29_code
abbrev y_Waves_reached : MethodName := ⟨"VillageWaves", "reached", "(III)I"⟩
abbrev b_Waves_correctedIn : ByteArray := prog_1_method_30_code
abbrev y_Waves_correctedIn : MethodName := ⟨"VillageWaves", "correctedIn", "(II)I"⟩
abbrev b_Waves_sizesOf : ByteArray := prog_1_method_41_code
abbrev y_Waves_sizesOf : MethodName := ⟨"VillageWaves", "sizesOf", "(LVillageWaves$Row;LVillageWaves$Row;)I"⟩
abbrev b_Waves_ahead : ByteArray := prog_1_method_31_code
abbrev y_Waves_ahead : MethodName := ⟨"VillageWaves", "ahead", "(II)I"⟩
abbrev b_Waves_bestAuthor : ByteArray := prog_1_method_32_code
abbrev y_Waves_bestAuthor : MethodName := ⟨"VillageWaves", "bestAuthor", "(I)I"⟩
abbrev b_Waves_savedIn : ByteArray := prog_1_method_42_code
abbrev y_Waves_savedIn : MethodName := ⟨"VillageWaves", "savedIn", "(I)LVillageWaves$Village;"⟩
abbrev b_Waves_save : ByteArray := prog_1_method_33_code
abbrev y_Waves_save : MethodName := ⟨"VillageWaves", "save", "(I)V"⟩
abbrev b_Waves_restore : ByteArray := prog_1_method_34_code
abbrev y_Waves_restore : MethodName := ⟨"VillageWaves", "restore", "(I)V"⟩
abbrev b_Waves_checkWithinX : ByteArray := prog_1_method_37_code
abbrev y_Waves_checkWithinX : MethodName := ⟨"VillageWaves", "checkWithin", "(III)V"⟩
abbrev b_Waves_runX : ByteArray := prog_1_method_21_code
abbrev y_Waves_runX : MethodName := ⟨"VillageWaves", "run", "(I)I"⟩
abbrev b_Law_addHouse : ByteArray := method_4_code
abbrev y_Law_addHouse : MethodName := ⟨"VillageWavesLaw", "addHouse", "(LVillageWaves;IIIII)I"⟩
abbrev b_Law_setQuiet : ByteArray := method_5_code
abbrev y_Law_setQuiet : MethodName := ⟨"VillageWavesLaw", "setQuiet", "(LVillageWaves;III)I"⟩
abbrev b_Law_charge : ByteArray := method_6_code
abbrev y_Law_charge : MethodName := ⟨"VillageWavesLaw", "charge", "(LVillageWaves;II)I"⟩
abbrev b_Law_set : ByteArray := method_7_code
abbrev y_Law_set : MethodName := ⟨"VillageWavesLaw", "set", "(LVillageWaves;II)I"⟩
abbrev b_Law_seed : ByteArray := method_8_code
abbrev y_Law_seed : MethodName := ⟨"VillageWavesLaw", "seed", "(LVillageWaves;I)I"⟩
abbrev b_Law_count : ByteArray := method_9_code
abbrev y_Law_count : MethodName := ⟨"VillageWavesLaw", "count", "(LVillageWaves;I)I"⟩
abbrev b_Law_house : ByteArray := method_10_code
abbrev y_Law_house : MethodName := ⟨"VillageWavesLaw", "house", "(LVillageWaves;II)I"⟩
abbrev b_Law_entry : ByteArray := method_11_code
abbrev y_Law_entry : MethodName := ⟨"VillageWavesLaw", "entry", "(LVillageWaves;III)I"⟩
abbrev b_Law_news : ByteArray := method_12_code
abbrev y_Law_news : MethodName := ⟨"VillageWavesLaw", "news", "(LVillageWaves;II)I"⟩
abbrev b_Law_source : ByteArray := method_13_code
abbrev y_Law_source : MethodName := ⟨"VillageWavesLaw", "source", "(LVillageWaves;II)I"⟩
abbrev b_Law_owes : ByteArray := method_14_code
abbrev y_Law_owes : MethodName := ⟨"VillageWavesLaw", "owes", "(LVillageWaves;II)I"⟩
abbrev b_Law_spoken : ByteArray := method_15_code
abbrev y_Law_spoken : MethodName := ⟨"VillageWavesLaw", "spoken", "(LVillageWaves;II)I"⟩
abbrev b_Law_tell : ByteArray := method_16_code
abbrev y_Law_tell : MethodName := ⟨"VillageWavesLaw", "tell", "(LVillageWaves;II)I"⟩
abbrev b_Law_correct : ByteArray := method_17_code
abbrev y_Law_correct : MethodName := ⟨"VillageWavesLaw", "correct", "(LVillageWaves;III)I"⟩
abbrev b_Law_run : ByteArray := method_18_code
abbrev y_Law_run : MethodName := ⟨"VillageWavesLaw", "run", "(LVillageWaves;I)I"⟩
abbrev b_Law_chance : ByteArray := method_19_code
abbrev y_Law_chance : MethodName := ⟨"VillageWavesLaw", "chance", "(LVillageWaves;I)D"⟩
abbrev b_Law_reached : ByteArray := method_23_code
abbrev y_Law_reached : MethodName := ⟨"VillageWavesLaw", "reached", "(LVillageWaves;III)I"⟩
abbrev b_Law_correctedIn : ByteArray := method_24_code
abbrev y_Law_correctedIn : MethodName := ⟨"VillageWavesLaw", "correctedIn", "(LVillageWaves;II)I"⟩
abbrev b_Law_ahead : ByteArray := method_25_code
abbrev y_Law_ahead : MethodName := ⟨"VillageWavesLaw", "ahead", "(LVillageWaves;II)I"⟩
abbrev b_Law_bestAuthor : ByteArray := method_26_code
abbrev y_Law_bestAuthor : MethodName := ⟨"VillageWavesLaw", "bestAuthor", "(LVillageWaves;I)I"⟩
abbrev b_Law_save : ByteArray := method_27_code
abbrev y_Law_save : MethodName := ⟨"VillageWavesLaw", "save", "(LVillageWaves;I)I"⟩
abbrev b_Law_restore : ByteArray := method_28_code
abbrev y_Law_restore : MethodName := ⟨"VillageWavesLaw", "restore", "(LVillageWaves;I)I"⟩
abbrev b_Law_at : ByteArray := method_2_code
abbrev y_Law_at : MethodName := ⟨"VillageWavesLaw", "at", "([II)I"⟩
abbrev b_Law_draw : ByteArray := method_3_code
abbrev y_Law_draw : MethodName := ⟨"VillageWavesLaw", "draw", "(I)I"⟩
abbrev b_Law_builds : ByteArray := method_29_code
abbrev y_Law_builds : MethodName := ⟨"VillageWavesLaw", "builds", "()Z"⟩
abbrev b_Law_sourcesAreSo : ByteArray := method_30_code
abbrev y_Law_sourcesAreSo : MethodName := ⟨"VillageWavesLaw", "sourcesAreSo", "()Z"⟩
abbrev b_Law_queuesAreSo : ByteArray := method_31_code
abbrev y_Law_queuesAreSo : MethodName := ⟨"VillageWavesLaw", "queuesAreSo", "()Z"⟩
abbrev b_Law_minute : ByteArray := method_32_code
abbrev y_Law_minute : MethodName := ⟨"VillageWavesLaw", "minute", "()Z"⟩
abbrev b_Law_says : ByteArray := method_33_code
abbrev y_Law_says : MethodName := ⟨"VillageWavesLaw", "says", "()Z"⟩
abbrev b_Law_foretells : ByteArray := method_34_code
abbrev y_Law_foretells : MethodName := ⟨"VillageWavesLaw", "foretells", "()Z"⟩
abbrev b_Law_tries : ByteArray := method_35_code
abbrev y_Law_tries : MethodName := ⟨"VillageWavesLaw", "tries", "()Z"⟩
abbrev b_Law_holds : ByteArray := method_37_code
abbrev y_Law_holds : MethodName := ⟨"VillageWavesLaw", "holds", "([I)Z"⟩
theorem gf_Row_13 {G : zLA} {p : Program} {l : Launch} {e : Env} {R : Room} {s : State} {m : MethodId} {args : Array Value} {below : List Frame} {meth : Method} {c : Code} {cells slots : Nat} {Q : State → Prop} {cc : ByteArray} {nL : Nat} {ret : Option FieldType} {pc : Nat} {lv : List (Nat × Value)} {st : List Value} {σ : zSt} (C : zCx G p s m args meth c "VillageWaves$Row" cc nL ret) {g o : Nat} {fs : List Value} {v : Value} (hlive : (g, o) ∈ zL G) (he : zct G σ g o = .inr (4, fs)) (hv : fs[0]? = some v) (d : decode cc pc = .ok (.getfield 13, 3)) (kk : zWV G p l e R s m args below meth c nL cells slots Q (pc + 3) lv (v :: st) σ) : zWV G p l e R s m args below meth c nL cells slots Q pc lv (.ref (zad G g o) :: st) σ :=
  z_get C zin_4 rfl 0 (by decide) zq76 rfl hlive he hv d kk
theorem kl_Row_19 : zLS "VillageWaves$Row" 19 y_Arrays_fill b_Arrays_fill 4 none 2 := ⟨zq257, zq258, zq36, zq259, ⟨by decide, by decide, by decide +kernel⟩⟩
theorem pf_Journal_9 {G : zLA} {p : Program} {l : Launch} {e : Env} {R : Room} {s : State} {m : MethodId} {args : Array Value} {below : List Frame} {meth : Method} {c : Code} {cells slots : Nat} {Q : State → Prop} {cc : ByteArray} {nL : Nat} {ret : Option FieldType} {pc : Nat} {lv : List (Nat × Value)} {st : List Value} {σ : zSt} (C : zCx G p s m args meth c "VillageWaves$Journal" cc nL ret) {g o : Nat} {fs : List Value} {v : Int32} (hlive : (g, o) ∈ zL G) (he : zct G σ g o = .inr (2, fs)) (hl0 : 0 < fs.length) (hset : zshp G g o (upd (σ.1 g o) 0 v) (σ.2.1 o) (σ.2.2 o) = .inr (2, fs.set 0 (.int v))) (d : decode cc pc = .ok (.putfield 9, 3)) (kk : zWV G p l e R s m args below meth c nL cells slots Q (pc + 3) lv st (zst σ g o 0 v)) : zWV G p l e R s m args below meth c nL cells slots Q pc lv (.int v :: .ref (zad G g o) :: st) σ :=
  z_put C zin_2 zy2 zn2 rfl 0 (by decide) zq220 rfl rfl rfl hlive he hl0 hset d kk
theorem gf_Journal_9 {G : zLA} {p : Program} {l : Launch} {e : Env} {R : Room} {s : State} {m : MethodId} {args : Array Value} {below : List Frame} {meth : Method} {c : Code} {cells slots : Nat} {Q : State → Prop} {cc : ByteArray} {nL : Nat} {ret : Option FieldType} {pc : Nat} {lv : List (Nat × Value)} {st : List Value} {σ : zSt} (C : zCx G p s m args meth c "VillageWaves$Journal" cc nL ret) {g o : Nat} {fs : List Value} {v : Value} (hlive : (g, o) ∈ zL G) (he : zct G σ g o = .inr (2, fs)) (hv : fs[0]? = some v) (d : decode cc pc = .ok (.getfield 9, 3)) (kk : zWV G p l e R s m args below meth c nL cells slots Q (pc + 3) lv (v :: st) σ) : zWV G p l e R s m args below meth c nL cells slots Q pc lv (.ref (zad G g o) :: st) σ :=
  z_get C zin_2 rfl 0 (by decide) zq220 rfl hlive he hv d kk
theorem gf_Journal_20 {G : zLA} {p : Program} {l : Launch} {e : Env} {R : Room} {s : State} {m : MethodId} {args : Array Value} {below : List Frame} {meth : Method} {c : Code} {cells slots : Nat} {Q : State → Prop} {cc : ByteArray} {nL : Nat} {ret : Option FieldType} {pc : Nat} {lv : List (Nat × Value)} {st : List Value} {σ : zSt} (C : zCx G p s m args meth c "VillageWaves$Journal" cc nL ret) {g o : Nat} {fs : List Value} {v : Value} (hlive : (g, o) ∈ zL G) (he : zct G σ g o = .inr (2, fs)) (hv : fs[1]? = some v) (d : decode cc pc = .ok (.getfield 20, 3)) (kk : zWV G p l e R s m args below meth c nL cells slots Q (pc + 3) lv (v :: st) σ) : zWV G p l e R s m args below meth c nL cells slots Q pc lv (.ref (zad G g o) :: st) σ :=
  z_get C zin_2 rfl 1 (by decide) zq222 rfl hlive he hv d kk
theorem kl_Journal_24 : zLV "VillageWaves$Journal" 24 "VillageWaves$Row" y_Row_copyFrom b_Row_copyFrom 2 none 1 := ⟨zq791, zq763, zq764, zq30, zq765, rfl, ⟨by decide, by decide, by decide +kernel⟩⟩
theorem kl_Journal_28 : zLV "VillageWaves$Journal" 28 "VillageWaves$Row" y_Row_put b_Row_put 3 none 2 := ⟨zq887, zq238, zq239, zq30, zq240, rfl, ⟨by decide, by decide, by decide +kernel⟩⟩
theorem kl_Journal_32 : zLV "VillageWaves$Journal" 32 "VillageWaves$Row" y_Row_get b_Row_get 2 (some .int) 1 := ⟨zq936, zq523, zq524, zq30, zq525, rfl, ⟨by decide, by decide, by decide +kernel⟩⟩
theorem gf_Entries_14 {G : zLA} {p : Program} {l : Launch} {e : Env} {R : Room} {s : State} {m : MethodId} {args : Array Value} {below : List Frame} {meth : Method} {c : Code} {cells slots : Nat} {Q : State → Prop} {cc : ByteArray} {nL : Nat} {ret : Option FieldType} {pc : Nat} {lv : List (Nat × Value)} {st : List Value} {σ : zSt} (C : zCx G p s m args meth c "VillageWaves$Entries" cc nL ret) {g o : Nat} {fs : List Value} {v : Value} (hlive : (g, o) ∈ zL G) (he : zct G σ g o = .inr (0, fs)) (hv : fs[0]? = some v) (d : decode cc pc = .ok (.getfield 14, 3)) (kk : zWV G p l e R s m args below meth c nL cells slots Q (pc + 3) lv (v :: st) σ) : zWV G p l e R s m args below meth c nL cells slots Q pc lv (.ref (zad G g o) :: st) σ :=
  z_get C zin_0 rfl 0 (by decide) zq204 rfl hlive he hv d kk
theorem kl_Entries_23 : zLV "VillageWaves$Entries" 23 "VillageWaves$Row" y_Row_fill b_Row_fill 2 none 1 := ⟨zq253, zq254, zq255, zq30, zq256, rfl, ⟨by decide, by decide, by decide +kernel⟩⟩
theorem kl_Entries_26 : zLV "VillageWaves$Entries" 26 "VillageWaves$Row" y_Row_copyFrom b_Row_copyFrom 2 none 1 := ⟨zq786, zq763, zq764, zq30, zq765, rfl, ⟨by decide, by decide, by decide +kernel⟩⟩
theorem gf_Entries_20 {G : zLA} {p : Program} {l : Launch} {e : Env} {R : Room} {s : State} {m : MethodId} {args : Array Value} {below : List Frame} {meth : Method} {c : Code} {cells slots : Nat} {Q : State → Prop} {cc : ByteArray} {nL : Nat} {ret : Option FieldType} {pc : Nat} {lv : List (Nat × Value)} {st : List Value} {σ : zSt} (C : zCx G p s m args meth c "VillageWaves$Entries" cc nL ret) {g o : Nat} {fs : List Value} {v : Value} (hlive : (g, o) ∈ zL G) (he : zct G σ g o = .inr (0, fs)) (hv : fs[1]? = some v) (d : decode cc pc = .ok (.getfield 20, 3)) (kk : zWV G p l e R s m args below meth c nL cells slots Q (pc + 3) lv (v :: st) σ) : zWV G p l e R s m args below meth c nL cells slots Q pc lv (.ref (zad G g o) :: st) σ :=
  z_get C zin_0 rfl 1 (by decide) zq206 rfl hlive he hv d kk
theorem kl_Entries_30 : zLV "VillageWaves$Entries" 30 "VillageWaves$Row" y_Row_join b_Row_join 3 none 2 := ⟨zq688, zq527, zq528, zq30, zq529, rfl, ⟨by decide, by decide, by decide +kernel⟩⟩
theorem kl_Entries_34 : zLSN "VillageWaves$Entries" 34 y_Waves_cell "VillageWaves" b_Waves_cell 2 (some .int) 2 := ⟨zp689, zq682, zq28, zq683, ⟨by decide, by decide, by decide +kernel⟩⟩
theorem kl_Entries_38 : zLV "VillageWaves$Entries" 38 "VillageWaves$Row" y_Row_put b_Row_put 3 none 2 := ⟨zq690, zq238, zq239, zq30, zq240, rfl, ⟨by decide, by decide, by decide +kernel⟩⟩
theorem kl_Entries_41 : zLV "VillageWaves$Entries" 41 "VillageWaves$Row" y_Row_leave b_Row_leave 3 none 2 := ⟨zq725, zq726, zq727, zq30, zq728, rfl, ⟨by decide, by decide, by decide +kernel⟩⟩
theorem kl_Entries_44 : zLV "VillageWaves$Entries" 44 "VillageWaves$Row" y_Row_get b_Row_get 2 (some .int) 1 := ⟨zq625, zq523, zq524, zq30, zq525, rfl, ⟨by decide, by decide, by decide +kernel⟩⟩
theorem kl_Entries_48 : zLS "VillageWaves$Entries" 48 y_Integer_bitCount b_Integer_bitCount 1 (some .int) 1 := ⟨zq626, zq627, zq45, zq628, ⟨by decide, by decide, by decide +kernel⟩⟩
theorem kl_Entries_53 : zLV "VillageWaves$Entries" 53 "VillageWaves$Entries" y_Entries_size b_Entries_size 2 (some .int) 1 := ⟨zq621, zq622, zq623, zq34, zq624, rfl, ⟨by decide, by decide, by decide +kernel⟩⟩
theorem kl_Entries_56 : zLV "VillageWaves$Entries" 56 "VillageWaves$Entries" y_Entries_time b_Entries_time 3 (some .int) 2 := ⟨zq870, zq871, zq872, zq34, zq873, rfl, ⟨by decide, by decide, by decide +kernel⟩⟩
theorem kl_Entries_59 : zLSN "VillageWaves$Entries" 59 y_Waves_contains "VillageWaves" b_Waves_contains 2 (some .boolean) 2 := ⟨zp874, zq645, zq28, zq646, ⟨by decide, by decide, by decide +kernel⟩⟩
theorem kl_Entries_63 : zLV "VillageWaves$Entries" 63 "VillageWaves$Entries" y_Entries_first b_Entries_first 6 (some .int) 2 := ⟨zq973, zq867, zq868, zq34, zq869, rfl, ⟨by decide, by decide, by decide +kernel⟩⟩
theorem kl_Entries_66 : zLSN "VillageWaves$Entries" 66 y_Waves_bit "VillageWaves" b_Waves_bit 1 (some .int) 1 := ⟨zp974, zq606, zq28, zq607, ⟨by decide, by decide, by decide +kernel⟩⟩
theorem pf_Tidings_9 {G : zLA} {p : Program} {l : Launch} {e : Env} {R : Room} {s : State} {m : MethodId} {args : Array Value} {below : List Frame} {meth : Method} {c : Code} {cells slots : Nat} {Q : State → Prop} {cc : ByteArray} {nL : Nat} {ret : Option FieldType} {pc : Nat} {lv : List (Nat × Value)} {st : List Value} {σ : zSt} (C : zCx G p s m args meth c "VillageWaves$Tidings" cc nL ret) {g o : Nat} {fs : List Value} {v : Int32} (hlive : (g, o) ∈ zL G) (he : zct G σ g o = .inr (6, fs)) (hl0 : 0 < fs.length) (hset : zshp G g o (upd (σ.1 g o) 0 v) (σ.2.1 o) (σ.2.2 o) = .inr (6, fs.set 0 (.int v))) (d : decode cc pc = .ok (.putfield 9, 3)) (kk : zWV G p l e R s m args below meth c nL cells slots Q (pc + 3) lv st (zst σ g o 0 v)) : zWV G p l e R s m args below meth c nL cells slots Q pc lv (.int v :: .ref (zad G g o) :: st) σ :=
  z_put C zin_6 zy6 zn6 rfl 0 (by decide) zq148 rfl rfl rfl hlive he hl0 hset d kk
theorem gf_Tidings_9 {G : zLA} {p : Program} {l : Launch} {e : Env} {R : Room} {s : State} {m : MethodId} {args : Array Value} {below : List Frame} {meth : Method} {c : Code} {cells slots : Nat} {Q : State → Prop} {cc : ByteArray} {nL : Nat} {ret : Option FieldType} {pc : Nat} {lv : List (Nat × Value)} {st : List Value} {σ : zSt} (C : zCx G p s m args meth c "VillageWaves$Tidings" cc nL ret) {g o : Nat} {fs : List Value} {v : Value} (hlive : (g, o) ∈ zL G) (he : zct G σ g o = .inr (6, fs)) (hv : fs[0]? = some v) (d : decode cc pc = .ok (.getfield 9, 3)) (kk : zWV G p l e R s m args below meth c nL cells slots Q (pc + 3) lv (v :: st) σ) : zWV G p l e R s m args below meth c nL cells slots Q pc lv (.ref (zad G g o) :: st) σ :=
  z_get C zin_6 rfl 0 (by decide) zq148 rfl hlive he hv d kk
theorem gf_Tidings_20 {G : zLA} {p : Program} {l : Launch} {e : Env} {R : Room} {s : State} {m : MethodId} {args : Array Value} {below : List Frame} {meth : Method} {c : Code} {cells slots : Nat} {Q : State → Prop} {cc : ByteArray} {nL : Nat} {ret : Option FieldType} {pc : Nat} {lv : List (Nat × Value)} {st : List Value} {σ : zSt} (C : zCx G p s m args meth c "VillageWaves$Tidings" cc nL ret) {g o : Nat} {fs : List Value} {v : Value} (hlive : (g, o) ∈ zL G) (he : zct G σ g o = .inr (6, fs)) (hv : fs[1]? = some v) (d : decode cc pc = .ok (.getfield 20, 3)) (kk : zWV G p l e R s m args below meth c nL cells slots Q (pc + 3) lv (v :: st) σ) : zWV G p l e R s m args below meth c nL cells slots Q pc lv (.ref (zad G g o) :: st) σ :=
  z_get C zin_6 rfl 1 (by decide) zq151 rfl hlive he hv d kk
theorem kl_Tidings_48 : zLV "VillageWaves$Tidings" 48 "VillageWaves$Row" y_Row_copyFrom b_Row_copyFrom 2 none 1 := ⟨zq781, zq763, zq764, zq30, zq765, rfl, ⟨by decide, by decide, by decide +kernel⟩⟩
theorem gf_Tidings_24 {G : zLA} {p : Program} {l : Launch} {e : Env} {R : Room} {s : State} {m : MethodId} {args : Array Value} {below : List Frame} {meth : Method} {c : Code} {cells slots : Nat} {Q : State → Prop} {cc : ByteArray} {nL : Nat} {ret : Option FieldType} {pc : Nat} {lv : List (Nat × Value)} {st : List Value} {σ : zSt} (C : zCx G p s m args meth c "VillageWaves$Tidings" cc nL ret) {g o : Nat} {fs : List Value} {v : Value} (hlive : (g, o) ∈ zL G) (he : zct G σ g o = .inr (6, fs)) (hv : fs[2]? = some v) (d : decode cc pc = .ok (.getfield 24, 3)) (kk : zWV G p l e R s m args below meth c nL cells slots Q (pc + 3) lv (v :: st) σ) : zWV G p l e R s m args below meth c nL cells slots Q pc lv (.ref (zad G g o) :: st) σ :=
  z_get C zin_6 rfl 2 (by decide) zq153 rfl hlive he hv d kk
theorem gf_Tidings_27 {G : zLA} {p : Program} {l : Launch} {e : Env} {R : Room} {s : State} {m : MethodId} {args : Array Value} {below : List Frame} {meth : Method} {c : Code} {cells slots : Nat} {Q : State → Prop} {cc : ByteArray} {nL : Nat} {ret : Option FieldType} {pc : Nat} {lv : List (Nat × Value)} {st : List Value} {σ : zSt} (C : zCx G p s m args meth c "VillageWaves$Tidings" cc nL ret) {g o : Nat} {fs : List Value} {v : Value} (hlive : (g, o) ∈ zL G) (he : zct G σ g o = .inr (6, fs)) (hv : fs[3]? = some v) (d : decode cc pc = .ok (.getfield 27, 3)) (kk : zWV G p l e R s m args below meth c nL cells slots Q (pc + 3) lv (v :: st) σ) : zWV G p l e R s m args below meth c nL cells slots Q pc lv (.ref (zad G g o) :: st) σ :=
  z_get C zin_6 rfl 3 (by decide) zq155 rfl hlive he hv d kk
theorem gf_Tidings_30 {G : zLA} {p : Program} {l : Launch} {e : Env} {R : Room} {s : State} {m : MethodId} {args : Array Value} {below : List Frame} {meth : Method} {c : Code} {cells slots : Nat} {Q : State → Prop} {cc : ByteArray} {nL : Nat} {ret : Option FieldType} {pc : Nat} {lv : List (Nat × Value)} {st : List Value} {σ : zSt} (C : zCx G p s m args meth c "VillageWaves$Tidings" cc nL ret) {g o : Nat} {fs : List Value} {v : Value} (hlive : (g, o) ∈ zL G) (he : zct G σ g o = .inr (6, fs)) (hv : fs[4]? = some v) (d : decode cc pc = .ok (.getfield 30, 3)) (kk : zWV G p l e R s m args below meth c nL cells slots Q (pc + 3) lv (v :: st) σ) : zWV G p l e R s m args below meth c nL cells slots Q pc lv (.ref (zad G g o) :: st) σ :=
  z_get C zin_6 rfl 4 (by decide) zq157 rfl hlive he hv d kk
theorem gf_Tidings_33 {G : zLA} {p : Program} {l : Launch} {e : Env} {R : Room} {s : State} {m : MethodId} {args : Array Value} {below : List Frame} {meth : Method} {c : Code} {cells slots : Nat} {Q : State → Prop} {cc : ByteArray} {nL : Nat} {ret : Option FieldType} {pc : Nat} {lv : List (Nat × Value)} {st : List Value} {σ : zSt} (C : zCx G p s m args meth c "VillageWaves$Tidings" cc nL ret) {g o : Nat} {fs : List Value} {v : Value} (hlive : (g, o) ∈ zL G) (he : zct G σ g o = .inr (6, fs)) (hv : fs[5]? = some v) (d : decode cc pc = .ok (.getfield 33, 3)) (kk : zWV G p l e R s m args below meth c nL cells slots Q (pc + 3) lv (v :: st) σ) : zWV G p l e R s m args below meth c nL cells slots Q pc lv (.ref (zad G g o) :: st) σ :=
  z_get C zin_6 rfl 5 (by decide) zq160 rfl hlive he hv d kk
theorem gf_Tidings_36 {G : zLA} {p : Program} {l : Launch} {e : Env} {R : Room} {s : State} {m : MethodId} {args : Array Value} {below : List Frame} {meth : Method} {c : Code} {cells slots : Nat} {Q : State → Prop} {cc : ByteArray} {nL : Nat} {ret : Option FieldType} {pc : Nat} {lv : List (Nat × Value)} {st : List Value} {σ : zSt} (C : zCx G p s m args meth c "VillageWaves$Tidings" cc nL ret) {g o : Nat} {fs : List Value} {v : Value} (hlive : (g, o) ∈ zL G) (he : zct G σ g o = .inr (6, fs)) (hv : fs[6]? = some v) (d : decode cc pc = .ok (.getfield 36, 3)) (kk : zWV G p l e R s m args below meth c nL cells slots Q (pc + 3) lv (v :: st) σ) : zWV G p l e R s m args below meth c nL cells slots Q pc lv (.ref (zad G g o) :: st) σ :=
  z_get C zin_6 rfl 6 (by decide) zq163 rfl hlive he hv d kk
theorem gf_Tidings_39 {G : zLA} {p : Program} {l : Launch} {e : Env} {R : Room} {s : State} {m : MethodId} {args : Array Value} {below : List Frame} {meth : Method} {c : Code} {cells slots : Nat} {Q : State → Prop} {cc : ByteArray} {nL : Nat} {ret : Option FieldType} {pc : Nat} {lv : List (Nat × Value)} {st : List Value} {σ : zSt} (C : zCx G p s m args meth c "VillageWaves$Tidings" cc nL ret) {g o : Nat} {fs : List Value} {v : Value} (hlive : (g, o) ∈ zL G) (he : zct G σ g o = .inr (6, fs)) (hv : fs[7]? = some v) (d : decode cc pc = .ok (.getfield 39, 3)) (kk : zWV G p l e R s m args below meth c nL cells slots Q (pc + 3) lv (v :: st) σ) : zWV G p l e R s m args below meth c nL cells slots Q pc lv (.ref (zad G g o) :: st) σ :=
  z_get C zin_6 rfl 7 (by decide) zq166 rfl hlive he hv d kk
theorem gf_Tidings_42 {G : zLA} {p : Program} {l : Launch} {e : Env} {R : Room} {s : State} {m : MethodId} {args : Array Value} {below : List Frame} {meth : Method} {c : Code} {cells slots : Nat} {Q : State → Prop} {cc : ByteArray} {nL : Nat} {ret : Option FieldType} {pc : Nat} {lv : List (Nat × Value)} {st : List Value} {σ : zSt} (C : zCx G p s m args meth c "VillageWaves$Tidings" cc nL ret) {g o : Nat} {fs : List Value} {v : Value} (hlive : (g, o) ∈ zL G) (he : zct G σ g o = .inr (6, fs)) (hv : fs[8]? = some v) (d : decode cc pc = .ok (.getfield 42, 3)) (kk : zWV G p l e R s m args below meth c nL cells slots Q (pc + 3) lv (v :: st) σ) : zWV G p l e R s m args below meth c nL cells slots Q pc lv (.ref (zad G g o) :: st) σ :=
  z_get C zin_6 rfl 8 (by decide) zq169 rfl hlive he hv d kk
theorem gf_Tidings_45 {G : zLA} {p : Program} {l : Launch} {e : Env} {R : Room} {s : State} {m : MethodId} {args : Array Value} {below : List Frame} {meth : Method} {c : Code} {cells slots : Nat} {Q : State → Prop} {cc : ByteArray} {nL : Nat} {ret : Option FieldType} {pc : Nat} {lv : List (Nat × Value)} {st : List Value} {σ : zSt} (C : zCx G p s m args meth c "VillageWaves$Tidings" cc nL ret) {g o : Nat} {fs : List Value} {v : Value} (hlive : (g, o) ∈ zL G) (he : zct G σ g o = .inr (6, fs)) (hv : fs[9]? = some v) (d : decode cc pc = .ok (.getfield 45, 3)) (kk : zWV G p l e R s m args below meth c nL cells slots Q (pc + 3) lv (v :: st) σ) : zWV G p l e R s m args below meth c nL cells slots Q pc lv (.ref (zad G g o) :: st) σ :=
  z_get C zin_6 rfl 9 (by decide) zq172 rfl hlive he hv d kk
theorem kl_Tidings_52 : zLV "VillageWaves$Tidings" 52 "VillageWaves$Row" y_Row_put b_Row_put 3 none 2 := ⟨zq680, zq238, zq239, zq30, zq240, rfl, ⟨by decide, by decide, by decide +kernel⟩⟩
theorem kl_Tidings_56 : zLSN "VillageWaves$Tidings" 56 y_Waves_bit "VillageWaves" b_Waves_bit 1 (some .int) 1 := ⟨zp647, zq606, zq28, zq607, ⟨by decide, by decide, by decide +kernel⟩⟩
theorem kl_Tidings_60 : zLV "VillageWaves$Tidings" 60 "VillageWaves$Row" y_Row_get b_Row_get 2 (some .int) 1 := ⟨zq616, zq523, zq524, zq30, zq525, rfl, ⟨by decide, by decide, by decide +kernel⟩⟩
theorem kl_Tidings_63 : zLV "VillageWaves$Tidings" 63 "VillageWaves$Tidings" y_Tidings_isCorrected b_Tidings_isCorrected 2 (some .boolean) 1 := ⟨zq612, zq613, zq614, zq33, zq615, rfl, ⟨by decide, by decide, by decide +kernel⟩⟩
theorem kl_Tidings_67 : zLSN "VillageWaves$Tidings" 67 y_Waves_contains "VillageWaves" b_Waves_contains 2 (some .boolean) 2 := ⟨zp644, zq645, zq28, zq646, ⟨by decide, by decide, by decide +kernel⟩⟩
theorem kl_Tidings_71 : zLV "VillageWaves$Tidings" 71 "VillageWaves$Tidings" y_Tidings_uncorrectedHouses b_Tidings_uncorrectedHouses 2 (some .int) 1 := ⟨zq656, zq657, zq658, zq33, zq659, rfl, ⟨by decide, by decide, by decide +kernel⟩⟩
theorem pf_Homes_9 {G : zLA} {p : Program} {l : Launch} {e : Env} {R : Room} {s : State} {m : MethodId} {args : Array Value} {below : List Frame} {meth : Method} {c : Code} {cells slots : Nat} {Q : State → Prop} {cc : ByteArray} {nL : Nat} {ret : Option FieldType} {pc : Nat} {lv : List (Nat × Value)} {st : List Value} {σ : zSt} (C : zCx G p s m args meth c "VillageWaves$Homes" cc nL ret) {g o : Nat} {fs : List Value} {v : Int32} (hlive : (g, o) ∈ zL G) (he : zct G σ g o = .inr (1, fs)) (hl0 : 0 < fs.length) (hset : zshp G g o (upd (σ.1 g o) 0 v) (σ.2.1 o) (σ.2.2 o) = .inr (1, fs.set 0 (.int v))) (d : decode cc pc = .ok (.putfield 9, 3)) (kk : zWV G p l e R s m args below meth c nL cells slots Q (pc + 3) lv st (zst σ g o 0 v)) : zWV G p l e R s m args below meth c nL cells slots Q pc lv (.int v :: .ref (zad G g o) :: st) σ :=
  z_put C zin_1 zy1 zn1 rfl 0 (by decide) zq89 rfl rfl rfl hlive he hl0 hset d kk
theorem gf_Homes_9 {G : zLA} {p : Program} {l : Launch} {e : Env} {R : Room} {s : State} {m : MethodId} {args : Array Value} {below : List Frame} {meth : Method} {c : Code} {cells slots : Nat} {Q : State → Prop} {cc : ByteArray} {nL : Nat} {ret : Option FieldType} {pc : Nat} {lv : List (Nat × Value)} {st : List Value} {σ : zSt} (C : zCx G p s m args meth c "VillageWaves$Homes" cc nL ret) {g o : Nat} {fs : List Value} {v : Value} (hlive : (g, o) ∈ zL G) (he : zct G σ g o = .inr (1, fs)) (hv : fs[0]? = some v) (d : decode cc pc = .ok (.getfield 9, 3)) (kk : zWV G p l e R s m args below meth c nL cells slots Q (pc + 3) lv (v :: st) σ) : zWV G p l e R s m args below meth c nL cells slots Q pc lv (.ref (zad G g o) :: st) σ :=
  z_get C zin_1 rfl 0 (by decide) zq89 rfl hlive he hv d kk
theorem gf_Homes_20 {G : zLA} {p : Program} {l : Launch} {e : Env} {R : Room} {s : State} {m : MethodId} {args : Array Value} {below : List Frame} {meth : Method} {c : Code} {cells slots : Nat} {Q : State → Prop} {cc : ByteArray} {nL : Nat} {ret : Option FieldType} {pc : Nat} {lv : List (Nat × Value)} {st : List Value} {σ : zSt} (C : zCx G p s m args meth c "VillageWaves$Homes" cc nL ret) {g o : Nat} {fs : List Value} {v : Value} (hlive : (g, o) ∈ zL G) (he : zct G σ g o = .inr (1, fs)) (hv : fs[1]? = some v) (d : decode cc pc = .ok (.getfield 20, 3)) (kk : zWV G p l e R s m args below meth c nL cells slots Q (pc + 3) lv (v :: st) σ) : zWV G p l e R s m args below meth c nL cells slots Q pc lv (.ref (zad G g o) :: st) σ :=
  z_get C zin_1 rfl 1 (by decide) zq92 rfl hlive he hv d kk
theorem kl_Homes_51 : zLV "VillageWaves$Homes" 51 "VillageWaves$Row" y_Row_copyFrom b_Row_copyFrom 2 none 1 := ⟨zq776, zq763, zq764, zq30, zq765, rfl, ⟨by decide, by decide, by decide +kernel⟩⟩
theorem gf_Homes_24 {G : zLA} {p : Program} {l : Launch} {e : Env} {R : Room} {s : State} {m : MethodId} {args : Array Value} {below : List Frame} {meth : Method} {c : Code} {cells slots : Nat} {Q : State → Prop} {cc : ByteArray} {nL : Nat} {ret : Option FieldType} {pc : Nat} {lv : List (Nat × Value)} {st : List Value} {σ : zSt} (C : zCx G p s m args meth c "VillageWaves$Homes" cc nL ret) {g o : Nat} {fs : List Value} {v : Value} (hlive : (g, o) ∈ zL G) (he : zct G σ g o = .inr (1, fs)) (hv : fs[2]? = some v) (d : decode cc pc = .ok (.getfield 24, 3)) (kk : zWV G p l e R s m args below meth c nL cells slots Q (pc + 3) lv (v :: st) σ) : zWV G p l e R s m args below meth c nL cells slots Q pc lv (.ref (zad G g o) :: st) σ :=
  z_get C zin_1 rfl 2 (by decide) zq94 rfl hlive he hv d kk
theorem gf_Homes_27 {G : zLA} {p : Program} {l : Launch} {e : Env} {R : Room} {s : State} {m : MethodId} {args : Array Value} {below : List Frame} {meth : Method} {c : Code} {cells slots : Nat} {Q : State → Prop} {cc : ByteArray} {nL : Nat} {ret : Option FieldType} {pc : Nat} {lv : List (Nat × Value)} {st : List Value} {σ : zSt} (C : zCx G p s m args meth c "VillageWaves$Homes" cc nL ret) {g o : Nat} {fs : List Value} {v : Value} (hlive : (g, o) ∈ zL G) (he : zct G σ g o = .inr (1, fs)) (hv : fs[3]? = some v) (d : decode cc pc = .ok (.getfield 27, 3)) (kk : zWV G p l e R s m args below meth c nL cells slots Q (pc + 3) lv (v :: st) σ) : zWV G p l e R s m args below meth c nL cells slots Q pc lv (.ref (zad G g o) :: st) σ :=
  z_get C zin_1 rfl 3 (by decide) zq96 rfl hlive he hv d kk
theorem gf_Homes_30 {G : zLA} {p : Program} {l : Launch} {e : Env} {R : Room} {s : State} {m : MethodId} {args : Array Value} {below : List Frame} {meth : Method} {c : Code} {cells slots : Nat} {Q : State → Prop} {cc : ByteArray} {nL : Nat} {ret : Option FieldType} {pc : Nat} {lv : List (Nat × Value)} {st : List Value} {σ : zSt} (C : zCx G p s m args meth c "VillageWaves$Homes" cc nL ret) {g o : Nat} {fs : List Value} {v : Value} (hlive : (g, o) ∈ zL G) (he : zct G σ g o = .inr (1, fs)) (hv : fs[4]? = some v) (d : decode cc pc = .ok (.getfield 30, 3)) (kk : zWV G p l e R s m args below meth c nL cells slots Q (pc + 3) lv (v :: st) σ) : zWV G p l e R s m args below meth c nL cells slots Q pc lv (.ref (zad G g o) :: st) σ :=
  z_get C zin_1 rfl 4 (by decide) zq98 rfl hlive he hv d kk
theorem gf_Homes_33 {G : zLA} {p : Program} {l : Launch} {e : Env} {R : Room} {s : State} {m : MethodId} {args : Array Value} {below : List Frame} {meth : Method} {c : Code} {cells slots : Nat} {Q : State → Prop} {cc : ByteArray} {nL : Nat} {ret : Option FieldType} {pc : Nat} {lv : List (Nat × Value)} {st : List Value} {σ : zSt} (C : zCx G p s m args meth c "VillageWaves$Homes" cc nL ret) {g o : Nat} {fs : List Value} {v : Value} (hlive : (g, o) ∈ zL G) (he : zct G σ g o = .inr (1, fs)) (hv : fs[5]? = some v) (d : decode cc pc = .ok (.getfield 33, 3)) (kk : zWV G p l e R s m args below meth c nL cells slots Q (pc + 3) lv (v :: st) σ) : zWV G p l e R s m args below meth c nL cells slots Q pc lv (.ref (zad G g o) :: st) σ :=
  z_get C zin_1 rfl 5 (by decide) zq101 rfl hlive he hv d kk
theorem gf_Homes_36 {G : zLA} {p : Program} {l : Launch} {e : Env} {R : Room} {s : State} {m : MethodId} {args : Array Value} {below : List Frame} {meth : Method} {c : Code} {cells slots : Nat} {Q : State → Prop} {cc : ByteArray} {nL : Nat} {ret : Option FieldType} {pc : Nat} {lv : List (Nat × Value)} {st : List Value} {σ : zSt} (C : zCx G p s m args meth c "VillageWaves$Homes" cc nL ret) {g o : Nat} {fs : List Value} {v : Value} (hlive : (g, o) ∈ zL G) (he : zct G σ g o = .inr (1, fs)) (hv : fs[6]? = some v) (d : decode cc pc = .ok (.getfield 36, 3)) (kk : zWV G p l e R s m args below meth c nL cells slots Q (pc + 3) lv (v :: st) σ) : zWV G p l e R s m args below meth c nL cells slots Q pc lv (.ref (zad G g o) :: st) σ :=
  z_get C zin_1 rfl 6 (by decide) zq104 rfl hlive he hv d kk
theorem gf_Homes_39 {G : zLA} {p : Program} {l : Launch} {e : Env} {R : Room} {s : State} {m : MethodId} {args : Array Value} {below : List Frame} {meth : Method} {c : Code} {cells slots : Nat} {Q : State → Prop} {cc : ByteArray} {nL : Nat} {ret : Option FieldType} {pc : Nat} {lv : List (Nat × Value)} {st : List Value} {σ : zSt} (C : zCx G p s m args meth c "VillageWaves$Homes" cc nL ret) {g o : Nat} {fs : List Value} {v : Value} (hlive : (g, o) ∈ zL G) (he : zct G σ g o = .inr (1, fs)) (hv : fs[7]? = some v) (d : decode cc pc = .ok (.getfield 39, 3)) (kk : zWV G p l e R s m args below meth c nL cells slots Q (pc + 3) lv (v :: st) σ) : zWV G p l e R s m args below meth c nL cells slots Q pc lv (.ref (zad G g o) :: st) σ :=
  z_get C zin_1 rfl 7 (by decide) zq106 rfl hlive he hv d kk
theorem gf_Homes_42 {G : zLA} {p : Program} {l : Launch} {e : Env} {R : Room} {s : State} {m : MethodId} {args : Array Value} {below : List Frame} {meth : Method} {c : Code} {cells slots : Nat} {Q : State → Prop} {cc : ByteArray} {nL : Nat} {ret : Option FieldType} {pc : Nat} {lv : List (Nat × Value)} {st : List Value} {σ : zSt} (C : zCx G p s m args meth c "VillageWaves$Homes" cc nL ret) {g o : Nat} {fs : List Value} {v : Value} (hlive : (g, o) ∈ zL G) (he : zct G σ g o = .inr (1, fs)) (hv : fs[8]? = some v) (d : decode cc pc = .ok (.getfield 42, 3)) (kk : zWV G p l e R s m args below meth c nL cells slots Q (pc + 3) lv (v :: st) σ) : zWV G p l e R s m args below meth c nL cells slots Q pc lv (.ref (zad G g o) :: st) σ :=
  z_get C zin_1 rfl 8 (by decide) zq108 rfl hlive he hv d kk
theorem gf_Homes_45 {G : zLA} {p : Program} {l : Launch} {e : Env} {R : Room} {s : State} {m : MethodId} {args : Array Value} {below : List Frame} {meth : Method} {c : Code} {cells slots : Nat} {Q : State → Prop} {cc : ByteArray} {nL : Nat} {ret : Option FieldType} {pc : Nat} {lv : List (Nat × Value)} {st : List Value} {σ : zSt} (C : zCx G p s m args meth c "VillageWaves$Homes" cc nL ret) {g o : Nat} {fs : List Value} {v : Value} (hlive : (g, o) ∈ zL G) (he : zct G σ g o = .inr (1, fs)) (hv : fs[9]? = some v) (d : decode cc pc = .ok (.getfield 45, 3)) (kk : zWV G p l e R s m args below meth c nL cells slots Q (pc + 3) lv (v :: st) σ) : zWV G p l e R s m args below meth c nL cells slots Q pc lv (.ref (zad G g o) :: st) σ :=
  z_get C zin_1 rfl 9 (by decide) zq111 rfl hlive he hv d kk
theorem gf_Homes_48 {G : zLA} {p : Program} {l : Launch} {e : Env} {R : Room} {s : State} {m : MethodId} {args : Array Value} {below : List Frame} {meth : Method} {c : Code} {cells slots : Nat} {Q : State → Prop} {cc : ByteArray} {nL : Nat} {ret : Option FieldType} {pc : Nat} {lv : List (Nat × Value)} {st : List Value} {σ : zSt} (C : zCx G p s m args meth c "VillageWaves$Homes" cc nL ret) {g o : Nat} {fs : List Value} {v : Value} (hlive : (g, o) ∈ zL G) (he : zct G σ g o = .inr (1, fs)) (hv : fs[10]? = some v) (d : decode cc pc = .ok (.getfield 48, 3)) (kk : zWV G p l e R s m args below meth c nL cells slots Q (pc + 3) lv (v :: st) σ) : zWV G p l e R s m args below meth c nL cells slots Q pc lv (.ref (zad G g o) :: st) σ :=
  z_get C zin_1 rfl 10 (by decide) zq114 rfl hlive he hv d kk
theorem kl_Homes_66 : zLV "VillageWaves$Homes" 66 "VillageWaves$Row" y_Row_get b_Row_get 2 (some .int) 1 := ⟨zq522, zq523, zq524, zq30, zq525, rfl, ⟨by decide, by decide, by decide +kernel⟩⟩
theorem kl_Homes_62 : zLV "VillageWaves$Homes" 62 "VillageWaves$Homes" y_Homes_distance b_Homes_distance 5 (some .int) 2 := ⟨zq518, zq520, zq5, zq32, zq521, rfl, ⟨by decide, by decide, by decide +kernel⟩⟩
theorem kl_Homes_70 : zLV "VillageWaves$Homes" 70 "VillageWaves$Row" y_Row_join b_Row_join 3 none 2 := ⟨zq526, zq527, zq528, zq30, zq529, rfl, ⟨by decide, by decide, by decide +kernel⟩⟩
theorem kl_Homes_55 : zLV "VillageWaves$Homes" 55 "VillageWaves$Row" y_Row_put b_Row_put 3 none 2 := ⟨zq513, zq238, zq239, zq30, zq240, rfl, ⟨by decide, by decide, by decide +kernel⟩⟩
theorem kl_Homes_59 : zLV "VillageWaves$Homes" 59 "VillageWaves$Homes" y_Homes_noteRange b_Homes_noteRange 3 none 2 := ⟨zq514, zq516, zq4, zq32, zq517, rfl, ⟨by decide, by decide, by decide +kernel⟩⟩
theorem kl_Homes_81 : zLV "VillageWaves$Homes" 81 "VillageWaves$Homes" y_Homes_addToBattery b_Homes_addToBattery 3 none 2 := ⟨zq801, zq802, zq803, zq32, zq804, rfl, ⟨by decide, by decide, by decide +kernel⟩⟩
theorem kl_Homes_84 : zLV "VillageWaves$Homes" 84 "VillageWaves$Homes" y_Homes_isQuiet b_Homes_isQuiet 5 (some .boolean) 2 := ⟨zq601, zq602, zq603, zq32, zq604, rfl, ⟨by decide, by decide, by decide +kernel⟩⟩
theorem kl_Homes_88 : zLSN "VillageWaves$Homes" 88 y_Waves_bit "VillageWaves" b_Waves_bit 1 (some .int) 1 := ⟨zp605, zq606, zq28, zq607, ⟨by decide, by decide, by decide +kernel⟩⟩
theorem kl_Homes_91 : zLSN "VillageWaves$Homes" 91 y_Waves_contains "VillageWaves" b_Waves_contains 2 (some .boolean) 2 := ⟨zp833, zq645, zq28, zq646, ⟨by decide, by decide, by decide +kernel⟩⟩
theorem pf_Village_9 {G : zLA} {p : Program} {l : Launch} {e : Env} {R : Room} {s : State} {m : MethodId} {args : Array Value} {below : List Frame} {meth : Method} {c : Code} {cells slots : Nat} {Q : State → Prop} {cc : ByteArray} {nL : Nat} {ret : Option FieldType} {pc : Nat} {lv : List (Nat × Value)} {st : List Value} {σ : zSt} (C : zCx G p s m args meth c "VillageWaves$Village" cc nL ret) {g o : Nat} {fs : List Value} {v : Int32} (hlive : (g, o) ∈ zL G) (he : zct G σ g o = .inr (7, fs)) (hl0 : 0 < fs.length) (hset : zshp G g o (upd (σ.1 g o) 0 v) (σ.2.1 o) (σ.2.2 o) = .inr (7, fs.set 0 (.int v))) (d : decode cc pc = .ok (.putfield 9, 3)) (kk : zWV G p l e R s m args below meth c nL cells slots Q (pc + 3) lv st (zst σ g o 0 v)) : zWV G p l e R s m args below meth c nL cells slots Q pc lv (.int v :: .ref (zad G g o) :: st) σ :=
  z_put C zin_7 zy7 zn7 rfl 0 (by decide) zq264 rfl rfl rfl hlive he hl0 hset d kk
theorem pf_Village_15 {G : zLA} {p : Program} {l : Launch} {e : Env} {R : Room} {s : State} {m : MethodId} {args : Array Value} {below : List Frame} {meth : Method} {c : Code} {cells slots : Nat} {Q : State → Prop} {cc : ByteArray} {nL : Nat} {ret : Option FieldType} {pc : Nat} {lv : List (Nat × Value)} {st : List Value} {σ : zSt} (C : zCx G p s m args meth c "VillageWaves$Village" cc nL ret) {g o : Nat} {fs : List Value} {v : Int32} (hlive : (g, o) ∈ zL G) (he : zct G σ g o = .inr (7, fs)) (hl0 : 1 < fs.length) (hset : zshp G g o (upd (σ.1 g o) 1 v) (σ.2.1 o) (σ.2.2 o) = .inr (7, fs.set 1 (.int v))) (d : decode cc pc = .ok (.putfield 15, 3)) (kk : zWV G p l e R s m args below meth c nL cells slots Q (pc + 3) lv st (zst σ g o 1 v)) : zWV G p l e R s m args below meth c nL cells slots Q pc lv (.int v :: .ref (zad G g o) :: st) σ :=
  z_put C zin_7 zy7 zn7 rfl 1 (by decide) zq266 rfl rfl rfl hlive he hl0 hset d kk
theorem pf_Village_18 {G : zLA} {p : Program} {l : Launch} {e : Env} {R : Room} {s : State} {m : MethodId} {args : Array Value} {below : List Frame} {meth : Method} {c : Code} {cells slots : Nat} {Q : State → Prop} {cc : ByteArray} {nL : Nat} {ret : Option FieldType} {pc : Nat} {lv : List (Nat × Value)} {st : List Value} {σ : zSt} (C : zCx G p s m args meth c "VillageWaves$Village" cc nL ret) {g o : Nat} {fs : List Value} {v : Int32} (hlive : (g, o) ∈ zL G) (he : zct G σ g o = .inr (7, fs)) (hl0 : 2 < fs.length) (hset : zshp G g o (upd (σ.1 g o) 2 v) (σ.2.1 o) (σ.2.2 o) = .inr (7, fs.set 2 (.int v))) (d : decode cc pc = .ok (.putfield 18, 3)) (kk : zWV G p l e R s m args below meth c nL cells slots Q (pc + 3) lv st (zst σ g o 2 v)) : zWV G p l e R s m args below meth c nL cells slots Q pc lv (.int v :: .ref (zad G g o) :: st) σ :=
  z_put C zin_7 zy7 zn7 rfl 2 (by decide) zq268 rfl rfl rfl hlive he hl0 hset d kk
theorem pf_Village_21 {G : zLA} {p : Program} {l : Launch} {e : Env} {R : Room} {s : State} {m : MethodId} {args : Array Value} {below : List Frame} {meth : Method} {c : Code} {cells slots : Nat} {Q : State → Prop} {cc : ByteArray} {nL : Nat} {ret : Option FieldType} {pc : Nat} {lv : List (Nat × Value)} {st : List Value} {σ : zSt} (C : zCx G p s m args meth c "VillageWaves$Village" cc nL ret) {g o : Nat} {fs : List Value} {v : Int32} (hlive : (g, o) ∈ zL G) (he : zct G σ g o = .inr (7, fs)) (hl0 : 3 < fs.length) (hset : zshp G g o (upd (σ.1 g o) 3 v) (σ.2.1 o) (σ.2.2 o) = .inr (7, fs.set 3 (.int v))) (d : decode cc pc = .ok (.putfield 21, 3)) (kk : zWV G p l e R s m args below meth c nL cells slots Q (pc + 3) lv st (zst σ g o 3 v)) : zWV G p l e R s m args below meth c nL cells slots Q pc lv (.int v :: .ref (zad G g o) :: st) σ :=
  z_put C zin_7 zy7 zn7 rfl 3 (by decide) zq270 rfl rfl rfl hlive he hl0 hset d kk
theorem gf_Village_36 {G : zLA} {p : Program} {l : Launch} {e : Env} {R : Room} {s : State} {m : MethodId} {args : Array Value} {below : List Frame} {meth : Method} {c : Code} {cells slots : Nat} {Q : State → Prop} {cc : ByteArray} {nL : Nat} {ret : Option FieldType} {pc : Nat} {lv : List (Nat × Value)} {st : List Value} {σ : zSt} (C : zCx G p s m args meth c "VillageWaves$Village" cc nL ret) {g o : Nat} {fs : List Value} {v : Value} (hlive : (g, o) ∈ zL G) (he : zct G σ g o = .inr (7, fs)) (hv : fs[5]? = some v) (d : decode cc pc = .ok (.getfield 36, 3)) (kk : zWV G p l e R s m args below meth c nL cells slots Q (pc + 3) lv (v :: st) σ) : zWV G p l e R s m args below meth c nL cells slots Q pc lv (.ref (zad G g o) :: st) σ :=
  z_get C zin_7 rfl 5 (by decide) zq274 rfl hlive he hv d kk
theorem kl_Village_88 : zLV "VillageWaves$Village" 88 "VillageWaves$Homes" y_Homes_clear b_Homes_clear 1 none 0 := ⟨zq241, zq242, zq243, zq32, zq244, rfl, ⟨by decide, by decide, by decide +kernel⟩⟩
theorem gf_Village_43 {G : zLA} {p : Program} {l : Launch} {e : Env} {R : Room} {s : State} {m : MethodId} {args : Array Value} {below : List Frame} {meth : Method} {c : Code} {cells slots : Nat} {Q : State → Prop} {cc : ByteArray} {nL : Nat} {ret : Option FieldType} {pc : Nat} {lv : List (Nat × Value)} {st : List Value} {σ : zSt} (C : zCx G p s m args meth c "VillageWaves$Village" cc nL ret) {g o : Nat} {fs : List Value} {v : Value} (hlive : (g, o) ∈ zL G) (he : zct G σ g o = .inr (7, fs)) (hv : fs[6]? = some v) (d : decode cc pc = .ok (.getfield 43, 3)) (kk : zWV G p l e R s m args below meth c nL cells slots Q (pc + 3) lv (v :: st) σ) : zWV G p l e R s m args below meth c nL cells slots Q pc lv (.ref (zad G g o) :: st) σ :=
  z_get C zin_7 rfl 6 (by decide) zq276 rfl hlive he hv d kk
theorem kl_Village_89 : zLV "VillageWaves$Village" 89 "VillageWaves$Tidings" y_Tidings_clear b_Tidings_clear 1 none 0 := ⟨zq245, zq246, zq247, zq33, zq248, rfl, ⟨by decide, by decide, by decide +kernel⟩⟩
theorem gf_Village_50 {G : zLA} {p : Program} {l : Launch} {e : Env} {R : Room} {s : State} {m : MethodId} {args : Array Value} {below : List Frame} {meth : Method} {c : Code} {cells slots : Nat} {Q : State → Prop} {cc : ByteArray} {nL : Nat} {ret : Option FieldType} {pc : Nat} {lv : List (Nat × Value)} {st : List Value} {σ : zSt} (C : zCx G p s m args meth c "VillageWaves$Village" cc nL ret) {g o : Nat} {fs : List Value} {v : Value} (hlive : (g, o) ∈ zL G) (he : zct G σ g o = .inr (7, fs)) (hv : fs[7]? = some v) (d : decode cc pc = .ok (.getfield 50, 3)) (kk : zWV G p l e R s m args below meth c nL cells slots Q (pc + 3) lv (v :: st) σ) : zWV G p l e R s m args below meth c nL cells slots Q pc lv (.ref (zad G g o) :: st) σ :=
  z_get C zin_7 rfl 7 (by decide) zq278 rfl hlive he hv d kk
theorem kl_Village_90 : zLV "VillageWaves$Village" 90 "VillageWaves$Entries" y_Entries_clear b_Entries_clear 1 none 0 := ⟨zq249, zq250, zq251, zq34, zq252, rfl, ⟨by decide, by decide, by decide +kernel⟩⟩
theorem gf_Village_54 {G : zLA} {p : Program} {l : Launch} {e : Env} {R : Room} {s : State} {m : MethodId} {args : Array Value} {below : List Frame} {meth : Method} {c : Code} {cells slots : Nat} {Q : State → Prop} {cc : ByteArray} {nL : Nat} {ret : Option FieldType} {pc : Nat} {lv : List (Nat × Value)} {st : List Value} {σ : zSt} (C : zCx G p s m args meth c "VillageWaves$Village" cc nL ret) {g o : Nat} {fs : List Value} {v : Value} (hlive : (g, o) ∈ zL G) (he : zct G σ g o = .inr (7, fs)) (hv : fs[8]? = some v) (d : decode cc pc = .ok (.getfield 54, 3)) (kk : zWV G p l e R s m args below meth c nL cells slots Q (pc + 3) lv (v :: st) σ) : zWV G p l e R s m args below meth c nL cells slots Q pc lv (.ref (zad G g o) :: st) σ :=
  z_get C zin_7 rfl 8 (by decide) zq280 rfl hlive he hv d kk
theorem gf_Village_69 {G : zLA} {p : Program} {l : Launch} {e : Env} {R : Room} {s : State} {m : MethodId} {args : Array Value} {below : List Frame} {meth : Method} {c : Code} {cells slots : Nat} {Q : State → Prop} {cc : ByteArray} {nL : Nat} {ret : Option FieldType} {pc : Nat} {lv : List (Nat × Value)} {st : List Value} {σ : zSt} (C : zCx G p s m args meth c "VillageWaves$Village" cc nL ret) {g o : Nat} {fs : List Value} {v : Value} (hlive : (g, o) ∈ zL G) (he : zct G σ g o = .inr (7, fs)) (hv : fs[12]? = some v) (d : decode cc pc = .ok (.getfield 69, 3)) (kk : zWV G p l e R s m args below meth c nL cells slots Q (pc + 3) lv (v :: st) σ) : zWV G p l e R s m args below meth c nL cells slots Q pc lv (.ref (zad G g o) :: st) σ :=
  z_get C zin_7 rfl 12 (by decide) zq287 rfl hlive he hv d kk
theorem kl_Village_91 : zLV "VillageWaves$Village" 91 "VillageWaves$Journal" y_Journal_clear b_Journal_clear 1 none 0 := ⟨zq260, zq261, zq262, zq35, zq263, rfl, ⟨by decide, by decide, by decide +kernel⟩⟩
theorem gf_Village_29 {G : zLA} {p : Program} {l : Launch} {e : Env} {R : Room} {s : State} {m : MethodId} {args : Array Value} {below : List Frame} {meth : Method} {c : Code} {cells slots : Nat} {Q : State → Prop} {cc : ByteArray} {nL : Nat} {ret : Option FieldType} {pc : Nat} {lv : List (Nat × Value)} {st : List Value} {σ : zSt} (C : zCx G p s m args meth c "VillageWaves$Village" cc nL ret) {g o : Nat} {fs : List Value} {v : Value} (hlive : (g, o) ∈ zL G) (he : zct G σ g o = .inr (7, fs)) (hv : fs[4]? = some v) (d : decode cc pc = .ok (.getfield 29, 3)) (kk : zWV G p l e R s m args below meth c nL cells slots Q (pc + 3) lv (v :: st) σ) : zWV G p l e R s m args below meth c nL cells slots Q pc lv (.ref (zad G g o) :: st) σ :=
  z_get C zin_7 rfl 4 (by decide) zq272 rfl hlive he hv d kk
theorem kl_Village_80 : zLSN "VillageWaves$Village" 80 y_Waves_element "VillageWaves" b_Waves_element 2 (some .int) 2 := ⟨zp234, zq235, zq28, zq236, ⟨by decide, by decide, by decide +kernel⟩⟩
theorem kl_Village_84 : zLV "VillageWaves$Village" 84 "VillageWaves$Row" y_Row_put b_Row_put 3 none 2 := ⟨zq237, zq238, zq239, zq30, zq240, rfl, ⟨by decide, by decide, by decide +kernel⟩⟩
theorem gf_Village_9 {G : zLA} {p : Program} {l : Launch} {e : Env} {R : Room} {s : State} {m : MethodId} {args : Array Value} {below : List Frame} {meth : Method} {c : Code} {cells slots : Nat} {Q : State → Prop} {cc : ByteArray} {nL : Nat} {ret : Option FieldType} {pc : Nat} {lv : List (Nat × Value)} {st : List Value} {σ : zSt} (C : zCx G p s m args meth c "VillageWaves$Village" cc nL ret) {g o : Nat} {fs : List Value} {v : Value} (hlive : (g, o) ∈ zL G) (he : zct G σ g o = .inr (7, fs)) (hv : fs[0]? = some v) (d : decode cc pc = .ok (.getfield 9, 3)) (kk : zWV G p l e R s m args below meth c nL cells slots Q (pc + 3) lv (v :: st) σ) : zWV G p l e R s m args below meth c nL cells slots Q pc lv (.ref (zad G g o) :: st) σ :=
  z_get C zin_7 rfl 0 (by decide) zq264 rfl hlive he hv d kk
theorem gf_Village_15 {G : zLA} {p : Program} {l : Launch} {e : Env} {R : Room} {s : State} {m : MethodId} {args : Array Value} {below : List Frame} {meth : Method} {c : Code} {cells slots : Nat} {Q : State → Prop} {cc : ByteArray} {nL : Nat} {ret : Option FieldType} {pc : Nat} {lv : List (Nat × Value)} {st : List Value} {σ : zSt} (C : zCx G p s m args meth c "VillageWaves$Village" cc nL ret) {g o : Nat} {fs : List Value} {v : Value} (hlive : (g, o) ∈ zL G) (he : zct G σ g o = .inr (7, fs)) (hv : fs[1]? = some v) (d : decode cc pc = .ok (.getfield 15, 3)) (kk : zWV G p l e R s m args below meth c nL cells slots Q (pc + 3) lv (v :: st) σ) : zWV G p l e R s m args below meth c nL cells slots Q pc lv (.ref (zad G g o) :: st) σ :=
  z_get C zin_7 rfl 1 (by decide) zq266 rfl hlive he hv d kk
theorem gf_Village_18 {G : zLA} {p : Program} {l : Launch} {e : Env} {R : Room} {s : State} {m : MethodId} {args : Array Value} {below : List Frame} {meth : Method} {c : Code} {cells slots : Nat} {Q : State → Prop} {cc : ByteArray} {nL : Nat} {ret : Option FieldType} {pc : Nat} {lv : List (Nat × Value)} {st : List Value} {σ : zSt} (C : zCx G p s m args meth c "VillageWaves$Village" cc nL ret) {g o : Nat} {fs : List Value} {v : Value} (hlive : (g, o) ∈ zL G) (he : zct G σ g o = .inr (7, fs)) (hv : fs[2]? = some v) (d : decode cc pc = .ok (.getfield 18, 3)) (kk : zWV G p l e R s m args below meth c nL cells slots Q (pc + 3) lv (v :: st) σ) : zWV G p l e R s m args below meth c nL cells slots Q pc lv (.ref (zad G g o) :: st) σ :=
  z_get C zin_7 rfl 2 (by decide) zq268 rfl hlive he hv d kk
theorem gf_Village_21 {G : zLA} {p : Program} {l : Launch} {e : Env} {R : Room} {s : State} {m : MethodId} {args : Array Value} {below : List Frame} {meth : Method} {c : Code} {cells slots : Nat} {Q : State → Prop} {cc : ByteArray} {nL : Nat} {ret : Option FieldType} {pc : Nat} {lv : List (Nat × Value)} {st : List Value} {σ : zSt} (C : zCx G p s m args meth c "VillageWaves$Village" cc nL ret) {g o : Nat} {fs : List Value} {v : Value} (hlive : (g, o) ∈ zL G) (he : zct G σ g o = .inr (7, fs)) (hv : fs[3]? = some v) (d : decode cc pc = .ok (.getfield 21, 3)) (kk : zWV G p l e R s m args below meth c nL cells slots Q (pc + 3) lv (v :: st) σ) : zWV G p l e R s m args below meth c nL cells slots Q pc lv (.ref (zad G g o) :: st) σ :=
  z_get C zin_7 rfl 3 (by decide) zq270 rfl hlive he hv d kk
theorem kl_Village_92 : zLV "VillageWaves$Village" 92 "VillageWaves$Row" y_Row_copyFrom b_Row_copyFrom 2 none 1 := ⟨zq762, zq763, zq764, zq30, zq765, rfl, ⟨by decide, by decide, by decide +kernel⟩⟩
theorem kl_Village_96 : zLV "VillageWaves$Village" 96 "VillageWaves$Homes" y_Homes_copyFrom b_Homes_copyFrom 2 none 1 := ⟨zq772, zq773, zq774, zq32, zq775, rfl, ⟨by decide, by decide, by decide +kernel⟩⟩
theorem kl_Village_99 : zLV "VillageWaves$Village" 99 "VillageWaves$Tidings" y_Tidings_copyFrom b_Tidings_copyFrom 2 none 1 := ⟨zq777, zq778, zq779, zq33, zq780, rfl, ⟨by decide, by decide, by decide +kernel⟩⟩
theorem kl_Village_102 : zLV "VillageWaves$Village" 102 "VillageWaves$Entries" y_Entries_copyFrom b_Entries_copyFrom 2 none 1 := ⟨zq782, zq783, zq784, zq34, zq785, rfl, ⟨by decide, by decide, by decide +kernel⟩⟩
theorem gf_Village_57 {G : zLA} {p : Program} {l : Launch} {e : Env} {R : Room} {s : State} {m : MethodId} {args : Array Value} {below : List Frame} {meth : Method} {c : Code} {cells slots : Nat} {Q : State → Prop} {cc : ByteArray} {nL : Nat} {ret : Option FieldType} {pc : Nat} {lv : List (Nat × Value)} {st : List Value} {σ : zSt} (C : zCx G p s m args meth c "VillageWaves$Village" cc nL ret) {g o : Nat} {fs : List Value} {v : Value} (hlive : (g, o) ∈ zL G) (he : zct G σ g o = .inr (7, fs)) (hv : fs[9]? = some v) (d : decode cc pc = .ok (.getfield 57, 3)) (kk : zWV G p l e R s m args below meth c nL cells slots Q (pc + 3) lv (v :: st) σ) : zWV G p l e R s m args below meth c nL cells slots Q pc lv (.ref (zad G g o) :: st) σ :=
  z_get C zin_7 rfl 9 (by decide) zq282 rfl hlive he hv d kk
theorem gf_Village_60 {G : zLA} {p : Program} {l : Launch} {e : Env} {R : Room} {s : State} {m : MethodId} {args : Array Value} {below : List Frame} {meth : Method} {c : Code} {cells slots : Nat} {Q : State → Prop} {cc : ByteArray} {nL : Nat} {ret : Option FieldType} {pc : Nat} {lv : List (Nat × Value)} {st : List Value} {σ : zSt} (C : zCx G p s m args meth c "VillageWaves$Village" cc nL ret) {g o : Nat} {fs : List Value} {v : Value} (hlive : (g, o) ∈ zL G) (he : zct G σ g o = .inr (7, fs)) (hv : fs[10]? = some v) (d : decode cc pc = .ok (.getfield 60, 3)) (kk : zWV G p l e R s m args below meth c nL cells slots Q (pc + 3) lv (v :: st) σ) : zWV G p l e R s m args below meth c nL cells slots Q pc lv (.ref (zad G g o) :: st) σ :=
  z_get C zin_7 rfl 10 (by decide) zq284 rfl hlive he hv d kk
theorem gf_Village_63 {G : zLA} {p : Program} {l : Launch} {e : Env} {R : Room} {s : State} {m : MethodId} {args : Array Value} {below : List Frame} {meth : Method} {c : Code} {cells slots : Nat} {Q : State → Prop} {cc : ByteArray} {nL : Nat} {ret : Option FieldType} {pc : Nat} {lv : List (Nat × Value)} {st : List Value} {σ : zSt} (C : zCx G p s m args meth c "VillageWaves$Village" cc nL ret) {g o : Nat} {fs : List Value} {v : Value} (hlive : (g, o) ∈ zL G) (he : zct G σ g o = .inr (7, fs)) (hv : fs[11]? = some v) (d : decode cc pc = .ok (.getfield 63, 3)) (kk : zWV G p l e R s m args below meth c nL cells slots Q (pc + 3) lv (v :: st) σ) : zWV G p l e R s m args below meth c nL cells slots Q pc lv (.ref (zad G g o) :: st) σ :=
  z_get C zin_7 rfl 11 (by decide) zq286 rfl hlive he hv d kk
theorem kl_Village_105 : zLV "VillageWaves$Village" 105 "VillageWaves$Journal" y_Journal_copyFrom b_Journal_copyFrom 2 none 1 := ⟨zq787, zq788, zq789, zq35, zq790, rfl, ⟨by decide, by decide, by decide +kernel⟩⟩
theorem kl_Village_108 : zLV "VillageWaves$Village" 108 "VillageWaves$Tidings" y_Tidings_add b_Tidings_add 5 (some .int) 3 := ⟨zq676, zq677, zq678, zq33, zq679, rfl, ⟨by decide, by decide, by decide +kernel⟩⟩
theorem kl_Village_116 : zLV "VillageWaves$Village" 116 "VillageWaves$Entries" y_Entries_put b_Entries_put 4 none 3 := ⟨zq684, zq685, zq686, zq34, zq687, rfl, ⟨by decide, by decide, by decide +kernel⟩⟩
theorem kl_Village_112 : zLSN "VillageWaves$Village" 112 y_Waves_cell "VillageWaves" b_Waves_cell 2 (some .int) 2 := ⟨zp681, zq682, zq28, zq683, ⟨by decide, by decide, by decide +kernel⟩⟩
theorem gf_Village_131 {G : zLA} {p : Program} {l : Launch} {e : Env} {R : Room} {s : State} {m : MethodId} {args : Array Value} {below : List Frame} {meth : Method} {c : Code} {cells slots : Nat} {Q : State → Prop} {cc : ByteArray} {nL : Nat} {ret : Option FieldType} {pc : Nat} {lv : List (Nat × Value)} {st : List Value} {σ : zSt} (C : zCx G p s m args meth c "VillageWaves$Village" cc nL ret) {g o : Nat} {fs : List Value} {v : Value} (hlive : (g, o) ∈ zL G) (he : zct G σ g o = .inr (6, fs)) (hv : fs[8]? = some v) (d : decode cc pc = .ok (.getfield 131, 3)) (kk : zWV G p l e R s m args below meth c nL cells slots Q (pc + 3) lv (v :: st) σ) : zWV G p l e R s m args below meth c nL cells slots Q pc lv (.ref (zad G g o) :: st) σ :=
  z_getN C zin_6 rfl 8 (by decide) zp170 rfl hlive he hv d kk
theorem kl_Village_134 : zLV "VillageWaves$Village" 134 "VillageWaves$Row" y_Row_get b_Row_get 2 (some .int) 1 := ⟨zq734, zq523, zq524, zq30, zq525, rfl, ⟨by decide, by decide, by decide +kernel⟩⟩
theorem kl_Village_138 : zLSN "VillageWaves$Village" 138 y_Waves_contains "VillageWaves" b_Waves_contains 2 (some .boolean) 2 := ⟨zp735, zq645, zq28, zq646, ⟨by decide, by decide, by decide +kernel⟩⟩
theorem kl_Village_230 : zLV "VillageWaves$Village" 230 "VillageWaves$Entries" y_Entries_remove b_Entries_remove 3 none 2 := ⟨zq721, zq722, zq723, zq34, zq724, rfl, ⟨by decide, by decide, by decide +kernel⟩⟩
theorem kl_Village_239 : zLV "VillageWaves$Village" 239 "VillageWaves$Row" y_Row_join b_Row_join 3 none 2 := ⟨zq729, zq527, zq528, zq30, zq529, rfl, ⟨by decide, by decide, by decide +kernel⟩⟩
theorem kl_Village_151 : zLV "VillageWaves$Village" 151 "VillageWaves$Village" y_Village_owedBy b_Village_owedBy 4 (some .int) 2 := ⟨zq730, zq731, zq732, zq29, zq733, rfl, ⟨by decide, by decide, by decide +kernel⟩⟩
theorem gf_Village_119 {G : zLA} {p : Program} {l : Launch} {e : Env} {R : Room} {s : State} {m : MethodId} {args : Array Value} {below : List Frame} {meth : Method} {c : Code} {cells slots : Nat} {Q : State → Prop} {cc : ByteArray} {nL : Nat} {ret : Option FieldType} {pc : Nat} {lv : List (Nat × Value)} {st : List Value} {σ : zSt} (C : zCx G p s m args meth c "VillageWaves$Village" cc nL ret) {g o : Nat} {fs : List Value} {v : Value} (hlive : (g, o) ∈ zL G) (he : zct G σ g o = .inr (6, fs)) (hv : fs[4]? = some v) (d : decode cc pc = .ok (.getfield 119, 3)) (kk : zWV G p l e R s m args below meth c nL cells slots Q (pc + 3) lv (v :: st) σ) : zWV G p l e R s m args below meth c nL cells slots Q pc lv (.ref (zad G g o) :: st) σ :=
  z_getN C zin_6 rfl 4 (by decide) zp158 rfl hlive he hv d kk
theorem gf_Village_122 {G : zLA} {p : Program} {l : Launch} {e : Env} {R : Room} {s : State} {m : MethodId} {args : Array Value} {below : List Frame} {meth : Method} {c : Code} {cells slots : Nat} {Q : State → Prop} {cc : ByteArray} {nL : Nat} {ret : Option FieldType} {pc : Nat} {lv : List (Nat × Value)} {st : List Value} {σ : zSt} (C : zCx G p s m args meth c "VillageWaves$Village" cc nL ret) {g o : Nat} {fs : List Value} {v : Value} (hlive : (g, o) ∈ zL G) (he : zct G σ g o = .inr (6, fs)) (hv : fs[5]? = some v) (d : decode cc pc = .ok (.getfield 122, 3)) (kk : zWV G p l e R s m args below meth c nL cells slots Q (pc + 3) lv (v :: st) σ) : zWV G p l e R s m args below meth c nL cells slots Q pc lv (.ref (zad G g o) :: st) σ :=
  z_getN C zin_6 rfl 5 (by decide) zp161 rfl hlive he hv d kk
theorem gf_Village_125 {G : zLA} {p : Program} {l : Launch} {e : Env} {R : Room} {s : State} {m : MethodId} {args : Array Value} {below : List Frame} {meth : Method} {c : Code} {cells slots : Nat} {Q : State → Prop} {cc : ByteArray} {nL : Nat} {ret : Option FieldType} {pc : Nat} {lv : List (Nat × Value)} {st : List Value} {σ : zSt} (C : zCx G p s m args meth c "VillageWaves$Village" cc nL ret) {g o : Nat} {fs : List Value} {v : Value} (hlive : (g, o) ∈ zL G) (he : zct G σ g o = .inr (6, fs)) (hv : fs[6]? = some v) (d : decode cc pc = .ok (.getfield 125, 3)) (kk : zWV G p l e R s m args below meth c nL cells slots Q (pc + 3) lv (v :: st) σ) : zWV G p l e R s m args below meth c nL cells slots Q pc lv (.ref (zad G g o) :: st) σ :=
  z_getN C zin_6 rfl 6 (by decide) zp164 rfl hlive he hv d kk
theorem kl_Village_128 : zLV "VillageWaves$Village" 128 "VillageWaves$Village" y_Village_learnCorrection b_Village_learnCorrection 3 none 2 := ⟨zq717, zq719, zq9, zq29, zq720, rfl, ⟨by decide, by decide, by decide +kernel⟩⟩
theorem gf_Village_142 {G : zLA} {p : Program} {l : Launch} {e : Env} {R : Room} {s : State} {m : MethodId} {args : Array Value} {below : List Frame} {meth : Method} {c : Code} {cells slots : Nat} {Q : State → Prop} {cc : ByteArray} {nL : Nat} {ret : Option FieldType} {pc : Nat} {lv : List (Nat × Value)} {st : List Value} {σ : zSt} (C : zCx G p s m args meth c "VillageWaves$Village" cc nL ret) {g o : Nat} {fs : List Value} {v : Value} (hlive : (g, o) ∈ zL G) (he : zct G σ g o = .inr (0, fs)) (hv : fs[0]? = some v) (d : decode cc pc = .ok (.getfield 142, 3)) (kk : zWV G p l e R s m args below meth c nL cells slots Q (pc + 3) lv (v :: st) σ) : zWV G p l e R s m args below meth c nL cells slots Q pc lv (.ref (zad G g o) :: st) σ :=
  z_getN C zin_0 rfl 0 (by decide) zp205 rfl hlive he hv d kk
theorem gf_Village_145 {G : zLA} {p : Program} {l : Launch} {e : Env} {R : Room} {s : State} {m : MethodId} {args : Array Value} {below : List Frame} {meth : Method} {c : Code} {cells slots : Nat} {Q : State → Prop} {cc : ByteArray} {nL : Nat} {ret : Option FieldType} {pc : Nat} {lv : List (Nat × Value)} {st : List Value} {σ : zSt} (C : zCx G p s m args meth c "VillageWaves$Village" cc nL ret) {g o : Nat} {fs : List Value} {v : Value} (hlive : (g, o) ∈ zL G) (he : zct G σ g o = .inr (1, fs)) (hv : fs[10]? = some v) (d : decode cc pc = .ok (.getfield 145, 3)) (kk : zWV G p l e R s m args below meth c nL cells slots Q (pc + 3) lv (v :: st) σ) : zWV G p l e R s m args below meth c nL cells slots Q pc lv (.ref (zad G g o) :: st) σ :=
  z_getN C zin_1 rfl 10 (by decide) zp115 rfl hlive he hv d kk
theorem gf_Village_148 {G : zLA} {p : Program} {l : Launch} {e : Env} {R : Room} {s : State} {m : MethodId} {args : Array Value} {below : List Frame} {meth : Method} {c : Code} {cells slots : Nat} {Q : State → Prop} {cc : ByteArray} {nL : Nat} {ret : Option FieldType} {pc : Nat} {lv : List (Nat × Value)} {st : List Value} {σ : zSt} (C : zCx G p s m args meth c "VillageWaves$Village" cc nL ret) {g o : Nat} {fs : List Value} {v : Value} (hlive : (g, o) ∈ zL G) (he : zct G σ g o = .inr (6, fs)) (hv : fs[0]? = some v) (d : decode cc pc = .ok (.getfield 148, 3)) (kk : zWV G p l e R s m args below meth c nL cells slots Q (pc + 3) lv (v :: st) σ) : zWV G p l e R s m args below meth c nL cells slots Q pc lv (.ref (zad G g o) :: st) σ :=
  z_getN C zin_6 rfl 0 (by decide) zp149 rfl hlive he hv d kk
theorem kl_Village_154 : zLSN "VillageWaves$Village" 154 y_Waves_bit "VillageWaves" b_Waves_bit 1 (some .int) 1 := ⟨zp815, zq606, zq28, zq607, ⟨by decide, by decide, by decide +kernel⟩⟩
theorem kl_Village_185 : zLV "VillageWaves$Village" 185 "VillageWaves$Village" y_Village_minuteOfDay b_Village_minuteOfDay 1 (some .int) 0 := ⟨zq796, zq594, zq595, zq29, zq596, rfl, ⟨by decide, by decide, by decide +kernel⟩⟩
theorem kl_Village_188 : zLV "VillageWaves$Village" 188 "VillageWaves$Homes" y_Homes_beginDay b_Homes_beginDay 3 none 1 := ⟨zq797, zq798, zq799, zq32, zq800, rfl, ⟨by decide, by decide, by decide +kernel⟩⟩
theorem gf_Village_194 {G : zLA} {p : Program} {l : Launch} {e : Env} {R : Room} {s : State} {m : MethodId} {args : Array Value} {below : List Frame} {meth : Method} {c : Code} {cells slots : Nat} {Q : State → Prop} {cc : ByteArray} {nL : Nat} {ret : Option FieldType} {pc : Nat} {lv : List (Nat × Value)} {st : List Value} {σ : zSt} (C : zCx G p s m args meth c "VillageWaves$Village" cc nL ret) {g o : Nat} {fs : List Value} {v : Value} (hlive : (g, o) ∈ zL G) (he : zct G σ g o = .inr (1, fs)) (hv : fs[4]? = some v) (d : decode cc pc = .ok (.getfield 194, 3)) (kk : zWV G p l e R s m args below meth c nL cells slots Q (pc + 3) lv (v :: st) σ) : zWV G p l e R s m args below meth c nL cells slots Q pc lv (.ref (zad G g o) :: st) σ :=
  z_getN C zin_1 rfl 4 (by decide) zp100 rfl hlive he hv d kk
theorem gf_Village_197 {G : zLA} {p : Program} {l : Launch} {e : Env} {R : Room} {s : State} {m : MethodId} {args : Array Value} {below : List Frame} {meth : Method} {c : Code} {cells slots : Nat} {Q : State → Prop} {cc : ByteArray} {nL : Nat} {ret : Option FieldType} {pc : Nat} {lv : List (Nat × Value)} {st : List Value} {σ : zSt} (C : zCx G p s m args meth c "VillageWaves$Village" cc nL ret) {g o : Nat} {fs : List Value} {v : Value} (hlive : (g, o) ∈ zL G) (he : zct G σ g o = .inr (1, fs)) (hv : fs[8]? = some v) (d : decode cc pc = .ok (.getfield 197, 3)) (kk : zWV G p l e R s m args below meth c nL cells slots Q (pc + 3) lv (v :: st) σ) : zWV G p l e R s m args below meth c nL cells slots Q pc lv (.ref (zad G g o) :: st) σ :=
  z_getN C zin_1 rfl 8 (by decide) zp109 rfl hlive he hv d kk
theorem kl_Village_200 : zLV "VillageWaves$Village" 200 "VillageWaves$Homes" y_Homes_isQuiet b_Homes_isQuiet 5 (some .boolean) 2 := ⟨zq820, zq602, zq603, zq32, zq604, rfl, ⟨by decide, by decide, by decide +kernel⟩⟩
theorem gf_Village_190 {G : zLA} {p : Program} {l : Launch} {e : Env} {R : Room} {s : State} {m : MethodId} {args : Array Value} {below : List Frame} {meth : Method} {c : Code} {cells slots : Nat} {Q : State → Prop} {cc : ByteArray} {nL : Nat} {ret : Option FieldType} {pc : Nat} {lv : List (Nat × Value)} {st : List Value} {σ : zSt} (C : zCx G p s m args meth c "VillageWaves$Village" cc nL ret) {g o : Nat} {fs : List Value} {v : Value} (hlive : (g, o) ∈ zL G) (he : zct G σ g o = .inr (1, fs)) (hv : fs[0]? = some v) (d : decode cc pc = .ok (.getfield 190, 3)) (kk : zWV G p l e R s m args below meth c nL cells slots Q (pc + 3) lv (v :: st) σ) : zWV G p l e R s m args below meth c nL cells slots Q pc lv (.ref (zad G g o) :: st) σ :=
  z_getN C zin_1 rfl 0 (by decide) zp90 rfl hlive he hv d kk
theorem kl_Village_170 : zLV "VillageWaves$Village" 170 "VillageWaves$Village" y_Village_sendableCorrections b_Village_sendableCorrections 6 (some .int) 1 := ⟨zq811, zq812, zq813, zq29, zq814, rfl, ⟨by decide, by decide, by decide +kernel⟩⟩
theorem kl_Village_191 : zLV "VillageWaves$Village" 191 "VillageWaves$Village" y_Village_maySpeak b_Village_maySpeak 3 (some .boolean) 2 := ⟨zq816, zq818, zq12, zq29, zq819, rfl, ⟨by decide, by decide, by decide +kernel⟩⟩
theorem kl_Village_203 : zLV "VillageWaves$Village" 203 "VillageWaves$Homes" y_Homes_sharesOf b_Homes_sharesOf 4 (some .int) 1 := ⟨zq829, zq830, zq831, zq32, zq832, rfl, ⟨by decide, by decide, by decide +kernel⟩⟩
theorem kl_Village_206 : zLV "VillageWaves$Village" 206 "VillageWaves$Village" y_Village_draw b_Village_draw 2 (some .int) 1 := ⟨zq834, zq836, zq13, zq29, zq837, rfl, ⟨by decide, by decide, by decide +kernel⟩⟩
theorem gf_Village_209 {G : zLA} {p : Program} {l : Launch} {e : Env} {R : Room} {s : State} {m : MethodId} {args : Array Value} {below : List Frame} {meth : Method} {c : Code} {cells slots : Nat} {Q : State → Prop} {cc : ByteArray} {nL : Nat} {ret : Option FieldType} {pc : Nat} {lv : List (Nat × Value)} {st : List Value} {σ : zSt} (C : zCx G p s m args meth c "VillageWaves$Village" cc nL ret) {g o : Nat} {fs : List Value} {v : Value} (hlive : (g, o) ∈ zL G) (he : zct G σ g o = .inr (1, fs)) (hv : fs[5]? = some v) (d : decode cc pc = .ok (.getfield 209, 3)) (kk : zWV G p l e R s m args below meth c nL cells slots Q (pc + 3) lv (v :: st) σ) : zWV G p l e R s m args below meth c nL cells slots Q pc lv (.ref (zad G g o) :: st) σ :=
  z_getN C zin_1 rfl 5 (by decide) zp103 rfl hlive he hv d kk
theorem kl_Village_213 : zLV "VillageWaves$Village" 213 "VillageWaves$Row" y_Row_add b_Row_add 3 none 2 := ⟨zq861, zq862, zq863, zq30, zq864, rfl, ⟨by decide, by decide, by decide +kernel⟩⟩
theorem gf_Village_215 {G : zLA} {p : Program} {l : Launch} {e : Env} {R : Room} {s : State} {m : MethodId} {args : Array Value} {below : List Frame} {meth : Method} {c : Code} {cells slots : Nat} {Q : State → Prop} {cc : ByteArray} {nL : Nat} {ret : Option FieldType} {pc : Nat} {lv : List (Nat × Value)} {st : List Value} {σ : zSt} (C : zCx G p s m args meth c "VillageWaves$Village" cc nL ret) {g o : Nat} {fs : List Value} {v : Value} (hlive : (g, o) ∈ zL G) (he : zct G σ g o = .inr (1, fs)) (hv : fs[9]? = some v) (d : decode cc pc = .ok (.getfield 215, 3)) (kk : zWV G p l e R s m args below meth c nL cells slots Q (pc + 3) lv (v :: st) σ) : zWV G p l e R s m args below meth c nL cells slots Q pc lv (.ref (zad G g o) :: st) σ :=
  z_getN C zin_1 rfl 9 (by decide) zp113 rfl hlive he hv d kk
theorem kl_Village_218 : zLS "VillageWaves$Village" 218 y_Integer_bitCount b_Integer_bitCount 1 (some .int) 1 := ⟨zq865, zq627, zq45, zq628, ⟨by decide, by decide, by decide +kernel⟩⟩
theorem kl_Village_250 : zLV "VillageWaves$Village" 250 "VillageWaves$Village" y_Village_dropSettledEntries b_Village_dropSettledEntries 3 none 1 := ⟨zq879, zq881, zq16, zq29, zq882, rfl, ⟨by decide, by decide, by decide +kernel⟩⟩
theorem kl_Village_233 : zLV "VillageWaves$Village" 233 "VillageWaves$Journal" y_Journal_add b_Journal_add 8 none 6 := ⟨zq883, zq884, zq885, zq35, zq886, rfl, ⟨by decide, by decide, by decide +kernel⟩⟩
theorem gf_Village_236 {G : zLA} {p : Program} {l : Launch} {e : Env} {R : Room} {s : State} {m : MethodId} {args : Array Value} {below : List Frame} {meth : Method} {c : Code} {cells slots : Nat} {Q : State → Prop} {cc : ByteArray} {nL : Nat} {ret : Option FieldType} {pc : Nat} {lv : List (Nat × Value)} {st : List Value} {σ : zSt} (C : zCx G p s m args meth c "VillageWaves$Village" cc nL ret) {g o : Nat} {fs : List Value} {v : Value} (hlive : (g, o) ∈ zL G) (he : zct G σ g o = .inr (6, fs)) (hv : fs[7]? = some v) (d : decode cc pc = .ok (.getfield 236, 3)) (kk : zWV G p l e R s m args below meth c nL cells slots Q (pc + 3) lv (v :: st) σ) : zWV G p l e R s m args below meth c nL cells slots Q pc lv (.ref (zad G g o) :: st) σ :=
  z_getN C zin_6 rfl 7 (by decide) zp168 rfl hlive he hv d kk
theorem gf_Village_242 {G : zLA} {p : Program} {l : Launch} {e : Env} {R : Room} {s : State} {m : MethodId} {args : Array Value} {below : List Frame} {meth : Method} {c : Code} {cells slots : Nat} {Q : State → Prop} {cc : ByteArray} {nL : Nat} {ret : Option FieldType} {pc : Nat} {lv : List (Nat × Value)} {st : List Value} {σ : zSt} (C : zCx G p s m args meth c "VillageWaves$Village" cc nL ret) {g o : Nat} {fs : List Value} {v : Value} (hlive : (g, o) ∈ zL G) (he : zct G σ g o = .inr (6, fs)) (hv : fs[9]? = some v) (d : decode cc pc = .ok (.getfield 242, 3)) (kk : zWV G p l e R s m args below meth c nL cells slots Q (pc + 3) lv (v :: st) σ) : zWV G p l e R s m args below meth c nL cells slots Q pc lv (.ref (zad G g o) :: st) σ :=
  z_getN C zin_6 rfl 9 (by decide) zp174 rfl hlive he hv d kk
theorem kl_Village_223 : zLV "VillageWaves$Village" 223 "VillageWaves$Tidings" y_Tidings_isHeardOf b_Tidings_isHeardOf 3 (some .boolean) 2 := ⟨zq892, zq893, zq894, zq33, zq895, rfl, ⟨by decide, by decide, by decide +kernel⟩⟩
theorem kl_Village_226 : zLV "VillageWaves$Village" 226 "VillageWaves$Village" y_Village_getNews b_Village_getNews 5 none 4 := ⟨zq896, zq898, zq18, zq29, zq899, rfl, ⟨by decide, by decide, by decide +kernel⟩⟩
theorem kl_Village_160 : zLV "VillageWaves$Village" 160 "VillageWaves$Village" y_Village_beginDay b_Village_beginDay 1 none 0 := ⟨zq854, zq793, zq794, zq29, zq795, rfl, ⟨by decide, by decide, by decide +kernel⟩⟩
theorem kl_Village_163 : zLV "VillageWaves$Village" 163 "VillageWaves$Village" y_Village_wishing b_Village_wishing 5 (some .int) 0 := ⟨zq855, zq808, zq809, zq29, zq810, rfl, ⟨by decide, by decide, by decide +kernel⟩⟩
theorem kl_Village_167 : zLV "VillageWaves$Village" 167 "VillageWaves$Village" y_Village_drawnOf b_Village_drawnOf 4 (some .int) 1 := ⟨zq856, zq826, zq827, zq29, zq828, rfl, ⟨by decide, by decide, by decide +kernel⟩⟩
theorem kl_Village_173 : zLV "VillageWaves$Village" 173 "VillageWaves$Village" y_Village_spendOnAir b_Village_spendOnAir 6 (some .int) 1 := ⟨zq857, zq859, zq14, zq29, zq860, rfl, ⟨by decide, by decide, by decide +kernel⟩⟩
theorem kl_Village_176 : zLV "VillageWaves$Village" 176 "VillageWaves$Entries" y_Entries_first b_Entries_first 6 (some .int) 2 := ⟨zq866, zq867, zq868, zq34, zq869, rfl, ⟨by decide, by decide, by decide +kernel⟩⟩
theorem kl_Village_182 : zLV "VillageWaves$Village" 182 "VillageWaves$Village" y_Village_sendNews b_Village_sendNews 7 none 3 := ⟨zq888, zq890, zq17, zq29, zq891, rfl, ⟨by decide, by decide, by decide +kernel⟩⟩
theorem kl_Village_179 : zLV "VillageWaves$Village" 179 "VillageWaves$Village" y_Village_sendCorrection b_Village_sendCorrection 6 none 3 := ⟨zq875, zq877, zq15, zq29, zq878, rfl, ⟨by decide, by decide, by decide +kernel⟩⟩
theorem kl_Village_157 : zLV "VillageWaves$Village" 157 "VillageWaves$Village" y_Village_minute b_Village_minute 6 none 0 := ⟨zq850, zq851, zq852, zq29, zq853, rfl, ⟨by decide, by decide, by decide +kernel⟩⟩
theorem kl_Waves_56 : zLS "VillageWaves" 56 y_Waves_checkWithin b_Waves_checkWithin 3 none 3 := ⟨zq418, zq419, zq28, zq420, ⟨by decide, by decide, by decide +kernel⟩⟩
theorem gf_Waves_10 {G : zLA} {p : Program} {l : Launch} {e : Env} {R : Room} {s : State} {m : MethodId} {args : Array Value} {below : List Frame} {meth : Method} {c : Code} {cells slots : Nat} {Q : State → Prop} {cc : ByteArray} {nL : Nat} {ret : Option FieldType} {pc : Nat} {lv : List (Nat × Value)} {st : List Value} {σ : zSt} (C : zCx G p s m args meth c "VillageWaves" cc nL ret) {g o : Nat} {fs : List Value} {v : Value} (hlive : (g, o) ∈ zL G) (he : zct G σ g o = .inr (8, fs)) (hv : fs[0]? = some v) (d : decode cc pc = .ok (.getfield 10, 3)) (kk : zWV G p l e R s m args below meth c nL cells slots Q (pc + 3) lv (v :: st) σ) : zWV G p l e R s m args below meth c nL cells slots Q pc lv (.ref (zad G g o) :: st) σ :=
  z_get C zin_8 rfl 0 (by decide) zq359 rfl hlive he hv d kk
theorem gf_Waves_68 {G : zLA} {p : Program} {l : Launch} {e : Env} {R : Room} {s : State} {m : MethodId} {args : Array Value} {below : List Frame} {meth : Method} {c : Code} {cells slots : Nat} {Q : State → Prop} {cc : ByteArray} {nL : Nat} {ret : Option FieldType} {pc : Nat} {lv : List (Nat × Value)} {st : List Value} {σ : zSt} (C : zCx G p s m args meth c "VillageWaves" cc nL ret) {g o : Nat} {fs : List Value} {v : Value} (hlive : (g, o) ∈ zL G) (he : zct G σ g o = .inr (7, fs)) (hv : fs[5]? = some v) (d : decode cc pc = .ok (.getfield 68, 3)) (kk : zWV G p l e R s m args below meth c nL cells slots Q (pc + 3) lv (v :: st) σ) : zWV G p l e R s m args below meth c nL cells slots Q pc lv (.ref (zad G g o) :: st) σ :=
  z_getN C zin_7 rfl 5 (by decide) zp275 rfl hlive he hv d kk
theorem kl_Waves_83 : zLV "VillageWaves" 83 "VillageWaves$Homes" y_Homes_isFull b_Homes_isFull 1 (some .boolean) 0 := ⟨zq489, zq490, zq491, zq32, zq492, rfl, ⟨by decide, by decide, by decide +kernel⟩⟩
theorem kl_Waves_89 : zLV "VillageWaves" 89 "VillageWaves$Homes" y_Homes_add b_Homes_add 8 (some .int) 5 := ⟨zq509, zq510, zq511, zq32, zq512, rfl, ⟨by decide, by decide, by decide +kernel⟩⟩
theorem gf_Waves_72 {G : zLA} {p : Program} {l : Launch} {e : Env} {R : Room} {s : State} {m : MethodId} {args : Array Value} {below : List Frame} {meth : Method} {c : Code} {cells slots : Nat} {Q : State → Prop} {cc : ByteArray} {nL : Nat} {ret : Option FieldType} {pc : Nat} {lv : List (Nat × Value)} {st : List Value} {σ : zSt} (C : zCx G p s m args meth c "VillageWaves" cc nL ret) {g o : Nat} {fs : List Value} {v : Value} (hlive : (g, o) ∈ zL G) (he : zct G σ g o = .inr (1, fs)) (hv : fs[0]? = some v) (d : decode cc pc = .ok (.getfield 72, 3)) (kk : zWV G p l e R s m args below meth c nL cells slots Q (pc + 3) lv (v :: st) σ) : zWV G p l e R s m args below meth c nL cells slots Q pc lv (.ref (zad G g o) :: st) σ :=
  z_getN C zin_1 rfl 0 (by decide) zp91 rfl hlive he hv d kk
theorem kl_Waves_93 : zLV "VillageWaves" 93 "VillageWaves" y_Waves_checkHouse b_Waves_checkHouse 2 none 1 := ⟨zq538, zq540, zq6, zq28, zq541, rfl, ⟨by decide, by decide, by decide +kernel⟩⟩
theorem gf_Waves_96 {G : zLA} {p : Program} {l : Launch} {e : Env} {R : Room} {s : State} {m : MethodId} {args : Array Value} {below : List Frame} {meth : Method} {c : Code} {cells slots : Nat} {Q : State → Prop} {cc : ByteArray} {nL : Nat} {ret : Option FieldType} {pc : Nat} {lv : List (Nat × Value)} {st : List Value} {σ : zSt} (C : zCx G p s m args meth c "VillageWaves" cc nL ret) {g o : Nat} {fs : List Value} {v : Value} (hlive : (g, o) ∈ zL G) (he : zct G σ g o = .inr (7, fs)) (hv : fs[0]? = some v) (d : decode cc pc = .ok (.getfield 96, 3)) (kk : zWV G p l e R s m args below meth c nL cells slots Q (pc + 3) lv (v :: st) σ) : zWV G p l e R s m args below meth c nL cells slots Q pc lv (.ref (zad G g o) :: st) σ :=
  z_getN C zin_7 rfl 0 (by decide) zp265 rfl hlive he hv d kk
theorem gf_Waves_104 {G : zLA} {p : Program} {l : Launch} {e : Env} {R : Room} {s : State} {m : MethodId} {args : Array Value} {below : List Frame} {meth : Method} {c : Code} {cells slots : Nat} {Q : State → Prop} {cc : ByteArray} {nL : Nat} {ret : Option FieldType} {pc : Nat} {lv : List (Nat × Value)} {st : List Value} {σ : zSt} (C : zCx G p s m args meth c "VillageWaves" cc nL ret) {g o : Nat} {fs : List Value} {v : Value} (hlive : (g, o) ∈ zL G) (he : zct G σ g o = .inr (1, fs)) (hv : fs[6]? = some v) (d : decode cc pc = .ok (.getfield 104, 3)) (kk : zWV G p l e R s m args below meth c nL cells slots Q (pc + 3) lv (v :: st) σ) : zWV G p l e R s m args below meth c nL cells slots Q pc lv (.ref (zad G g o) :: st) σ :=
  z_getN C zin_1 rfl 6 (by decide) zp105 rfl hlive he hv d kk
theorem kl_Waves_108 : zLV "VillageWaves" 108 "VillageWaves$Row" y_Row_put b_Row_put 3 none 2 := ⟨zq559, zq238, zq239, zq30, zq240, rfl, ⟨by decide, by decide, by decide +kernel⟩⟩
theorem gf_Waves_114 {G : zLA} {p : Program} {l : Launch} {e : Env} {R : Room} {s : State} {m : MethodId} {args : Array Value} {below : List Frame} {meth : Method} {c : Code} {cells slots : Nat} {Q : State → Prop} {cc : ByteArray} {nL : Nat} {ret : Option FieldType} {pc : Nat} {lv : List (Nat × Value)} {st : List Value} {σ : zSt} (C : zCx G p s m args meth c "VillageWaves" cc nL ret) {g o : Nat} {fs : List Value} {v : Value} (hlive : (g, o) ∈ zL G) (he : zct G σ g o = .inr (1, fs)) (hv : fs[7]? = some v) (d : decode cc pc = .ok (.getfield 114, 3)) (kk : zWV G p l e R s m args below meth c nL cells slots Q (pc + 3) lv (v :: st) σ) : zWV G p l e R s m args below meth c nL cells slots Q pc lv (.ref (zad G g o) :: st) σ :=
  z_getN C zin_1 rfl 7 (by decide) zp107 rfl hlive he hv d kk
theorem kl_Waves_117 : zLV "VillageWaves" 117 "VillageWaves$Homes" y_Homes_addToBattery b_Homes_addToBattery 3 none 2 := ⟨zq944, zq802, zq803, zq32, zq804, rfl, ⟨by decide, by decide, by decide +kernel⟩⟩
theorem gf_Waves_120 {G : zLA} {p : Program} {l : Launch} {e : Env} {R : Room} {s : State} {m : MethodId} {args : Array Value} {below : List Frame} {meth : Method} {c : Code} {cells slots : Nat} {Q : State → Prop} {cc : ByteArray} {nL : Nat} {ret : Option FieldType} {pc : Nat} {lv : List (Nat × Value)} {st : List Value} {σ : zSt} (C : zCx G p s m args meth c "VillageWaves" cc nL ret) {g o : Nat} {fs : List Value} {v : Value} (hlive : (g, o) ∈ zL G) (he : zct G σ g o = .inr (1, fs)) (hv : fs[4]? = some v) (d : decode cc pc = .ok (.getfield 120, 3)) (kk : zWV G p l e R s m args below meth c nL cells slots Q (pc + 3) lv (v :: st) σ) : zWV G p l e R s m args below meth c nL cells slots Q pc lv (.ref (zad G g o) :: st) σ :=
  z_getN C zin_1 rfl 4 (by decide) zp99 rfl hlive he hv d kk
theorem kl_Waves_123 : zLV "VillageWaves" 123 "VillageWaves$Row" y_Row_get b_Row_get 2 (some .int) 1 := ⟨zq572, zq523, zq524, zq30, zq525, rfl, ⟨by decide, by decide, by decide +kernel⟩⟩
theorem kl_Waves_131 : zLS "VillageWaves" 131 y_Waves_element b_Waves_element 2 (some .int) 2 := ⟨zq569, zq235, zq28, zq236, ⟨by decide, by decide, by decide +kernel⟩⟩
theorem gf_Waves_138 {G : zLA} {p : Program} {l : Launch} {e : Env} {R : Room} {s : State} {m : MethodId} {args : Array Value} {below : List Frame} {meth : Method} {c : Code} {cells slots : Nat} {Q : State → Prop} {cc : ByteArray} {nL : Nat} {ret : Option FieldType} {pc : Nat} {lv : List (Nat × Value)} {st : List Value} {σ : zSt} (C : zCx G p s m args meth c "VillageWaves" cc nL ret) {g o : Nat} {fs : List Value} {v : Value} (hlive : (g, o) ∈ zL G) (he : zct G σ g o = .inr (7, fs)) (hv : fs[4]? = some v) (d : decode cc pc = .ok (.getfield 138, 3)) (kk : zWV G p l e R s m args below meth c nL cells slots Q (pc + 3) lv (v :: st) σ) : zWV G p l e R s m args below meth c nL cells slots Q pc lv (.ref (zad G g o) :: st) σ :=
  z_getN C zin_7 rfl 4 (by decide) zp273 rfl hlive he hv d kk
theorem pf_Waves_142 {G : zLA} {p : Program} {l : Launch} {e : Env} {R : Room} {s : State} {m : MethodId} {args : Array Value} {below : List Frame} {meth : Method} {c : Code} {cells slots : Nat} {Q : State → Prop} {cc : ByteArray} {nL : Nat} {ret : Option FieldType} {pc : Nat} {lv : List (Nat × Value)} {st : List Value} {σ : zSt} (C : zCx G p s m args meth c "VillageWaves" cc nL ret) {g o : Nat} {fs : List Value} {v : Int32} (hlive : (g, o) ∈ zL G) (he : zct G σ g o = .inr (7, fs)) (hl0 : 2 < fs.length) (hset : zshp G g o (upd (σ.1 g o) 2 v) (σ.2.1 o) (σ.2.2 o) = .inr (7, fs.set 2 (.int v))) (d : decode cc pc = .ok (.putfield 142, 3)) (kk : zWV G p l e R s m args below meth c nL cells slots Q (pc + 3) lv st (zst σ g o 2 v)) : zWV G p l e R s m args below meth c nL cells slots Q pc lv (.int v :: .ref (zad G g o) :: st) σ :=
  z_putN C zin_7 zy7 zn7 rfl 2 (by decide) zp269 rfl rfl rfl hlive he hl0 hset d kk
theorem gf_Waves_145 {G : zLA} {p : Program} {l : Launch} {e : Env} {R : Room} {s : State} {m : MethodId} {args : Array Value} {below : List Frame} {meth : Method} {c : Code} {cells slots : Nat} {Q : State → Prop} {cc : ByteArray} {nL : Nat} {ret : Option FieldType} {pc : Nat} {lv : List (Nat × Value)} {st : List Value} {σ : zSt} (C : zCx G p s m args meth c "VillageWaves" cc nL ret) {g o : Nat} {fs : List Value} {v : Value} (hlive : (g, o) ∈ zL G) (he : zct G σ g o = .inr (7, fs)) (hv : fs[6]? = some v) (d : decode cc pc = .ok (.getfield 145, 3)) (kk : zWV G p l e R s m args below meth c nL cells slots Q (pc + 3) lv (v :: st) σ) : zWV G p l e R s m args below meth c nL cells slots Q pc lv (.ref (zad G g o) :: st) σ :=
  z_getN C zin_7 rfl 6 (by decide) zp277 rfl hlive he hv d kk
theorem gf_Waves_149 {G : zLA} {p : Program} {l : Launch} {e : Env} {R : Room} {s : State} {m : MethodId} {args : Array Value} {below : List Frame} {meth : Method} {c : Code} {cells slots : Nat} {Q : State → Prop} {cc : ByteArray} {nL : Nat} {ret : Option FieldType} {pc : Nat} {lv : List (Nat × Value)} {st : List Value} {σ : zSt} (C : zCx G p s m args meth c "VillageWaves" cc nL ret) {g o : Nat} {fs : List Value} {v : Value} (hlive : (g, o) ∈ zL G) (he : zct G σ g o = .inr (6, fs)) (hv : fs[0]? = some v) (d : decode cc pc = .ok (.getfield 149, 3)) (kk : zWV G p l e R s m args below meth c nL cells slots Q (pc + 3) lv (v :: st) σ) : zWV G p l e R s m args below meth c nL cells slots Q pc lv (.ref (zad G g o) :: st) σ :=
  z_getN C zin_6 rfl 0 (by decide) zp150 rfl hlive he hv d kk
theorem gf_Waves_152 {G : zLA} {p : Program} {l : Launch} {e : Env} {R : Room} {s : State} {m : MethodId} {args : Array Value} {below : List Frame} {meth : Method} {c : Code} {cells slots : Nat} {Q : State → Prop} {cc : ByteArray} {nL : Nat} {ret : Option FieldType} {pc : Nat} {lv : List (Nat × Value)} {st : List Value} {σ : zSt} (C : zCx G p s m args meth c "VillageWaves" cc nL ret) {g o : Nat} {fs : List Value} {v : Value} (hlive : (g, o) ∈ zL G) (he : zct G σ g o = .inr (7, fs)) (hv : fs[1]? = some v) (d : decode cc pc = .ok (.getfield 152, 3)) (kk : zWV G p l e R s m args below meth c nL cells slots Q (pc + 3) lv (v :: st) σ) : zWV G p l e R s m args below meth c nL cells slots Q pc lv (.ref (zad G g o) :: st) σ :=
  z_getN C zin_7 rfl 1 (by decide) zp267 rfl hlive he hv d kk
theorem gf_Waves_142 {G : zLA} {p : Program} {l : Launch} {e : Env} {R : Room} {s : State} {m : MethodId} {args : Array Value} {below : List Frame} {meth : Method} {c : Code} {cells slots : Nat} {Q : State → Prop} {cc : ByteArray} {nL : Nat} {ret : Option FieldType} {pc : Nat} {lv : List (Nat × Value)} {st : List Value} {σ : zSt} (C : zCx G p s m args meth c "VillageWaves" cc nL ret) {g o : Nat} {fs : List Value} {v : Value} (hlive : (g, o) ∈ zL G) (he : zct G σ g o = .inr (7, fs)) (hv : fs[2]? = some v) (d : decode cc pc = .ok (.getfield 142, 3)) (kk : zWV G p l e R s m args below meth c nL cells slots Q (pc + 3) lv (v :: st) σ) : zWV G p l e R s m args below meth c nL cells slots Q pc lv (.ref (zad G g o) :: st) σ :=
  z_getN C zin_7 rfl 2 (by decide) zp269 rfl hlive he hv d kk
theorem gf_Waves_155 {G : zLA} {p : Program} {l : Launch} {e : Env} {R : Room} {s : State} {m : MethodId} {args : Array Value} {below : List Frame} {meth : Method} {c : Code} {cells slots : Nat} {Q : State → Prop} {cc : ByteArray} {nL : Nat} {ret : Option FieldType} {pc : Nat} {lv : List (Nat × Value)} {st : List Value} {σ : zSt} (C : zCx G p s m args meth c "VillageWaves" cc nL ret) {g o : Nat} {fs : List Value} {v : Value} (hlive : (g, o) ∈ zL G) (he : zct G σ g o = .inr (7, fs)) (hv : fs[12]? = some v) (d : decode cc pc = .ok (.getfield 155, 3)) (kk : zWV G p l e R s m args below meth c nL cells slots Q (pc + 3) lv (v :: st) σ) : zWV G p l e R s m args below meth c nL cells slots Q pc lv (.ref (zad G g o) :: st) σ :=
  z_getN C zin_7 rfl 12 (by decide) zp288 rfl hlive he hv d kk
theorem gf_Waves_159 {G : zLA} {p : Program} {l : Launch} {e : Env} {R : Room} {s : State} {m : MethodId} {args : Array Value} {below : List Frame} {meth : Method} {c : Code} {cells slots : Nat} {Q : State → Prop} {cc : ByteArray} {nL : Nat} {ret : Option FieldType} {pc : Nat} {lv : List (Nat × Value)} {st : List Value} {σ : zSt} (C : zCx G p s m args meth c "VillageWaves" cc nL ret) {g o : Nat} {fs : List Value} {v : Value} (hlive : (g, o) ∈ zL G) (he : zct G σ g o = .inr (2, fs)) (hv : fs[0]? = some v) (d : decode cc pc = .ok (.getfield 159, 3)) (kk : zWV G p l e R s m args below meth c nL cells slots Q (pc + 3) lv (v :: st) σ) : zWV G p l e R s m args below meth c nL cells slots Q pc lv (.ref (zad G g o) :: st) σ :=
  z_getN C zin_2 rfl 0 (by decide) zp221 rfl hlive he hv d kk
theorem kl_Waves_164 : zLV "VillageWaves" 164 "VillageWaves$Village" y_Village_minuteOfDay b_Village_minuteOfDay 1 (some .int) 0 := ⟨zq593, zq594, zq595, zq29, zq596, rfl, ⟨by decide, by decide, by decide +kernel⟩⟩
theorem kl_Waves_168 : zLV "VillageWaves" 168 "VillageWaves$Homes" y_Homes_quietAt b_Homes_quietAt 4 (some .int) 1 := ⟨zq597, zq598, zq599, zq32, zq600, rfl, ⟨by decide, by decide, by decide +kernel⟩⟩
theorem kl_Waves_171 : zLV "VillageWaves" 171 "VillageWaves$Tidings" y_Tidings_correctedNumber b_Tidings_correctedNumber 3 (some .int) 0 := ⟨zq608, zq609, zq610, zq33, zq611, rfl, ⟨by decide, by decide, by decide +kernel⟩⟩
theorem gf_Waves_174 {G : zLA} {p : Program} {l : Launch} {e : Env} {R : Room} {s : State} {m : MethodId} {args : Array Value} {below : List Frame} {meth : Method} {c : Code} {cells slots : Nat} {Q : State → Prop} {cc : ByteArray} {nL : Nat} {ret : Option FieldType} {pc : Nat} {lv : List (Nat × Value)} {st : List Value} {σ : zSt} (C : zCx G p s m args meth c "VillageWaves" cc nL ret) {g o : Nat} {fs : List Value} {v : Value} (hlive : (g, o) ∈ zL G) (he : zct G σ g o = .inr (7, fs)) (hv : fs[7]? = some v) (d : decode cc pc = .ok (.getfield 174, 3)) (kk : zWV G p l e R s m args below meth c nL cells slots Q (pc + 3) lv (v :: st) σ) : zWV G p l e R s m args below meth c nL cells slots Q pc lv (.ref (zad G g o) :: st) σ :=
  z_getN C zin_7 rfl 7 (by decide) zp279 rfl hlive he hv d kk
theorem kl_Waves_178 : zLV "VillageWaves" 178 "VillageWaves$Entries" y_Entries_total b_Entries_total 3 (some .int) 0 := ⟨zq617, zq618, zq619, zq34, zq620, rfl, ⟨by decide, by decide, by decide +kernel⟩⟩
theorem gf_Waves_182 {G : zLA} {p : Program} {l : Launch} {e : Env} {R : Room} {s : State} {m : MethodId} {args : Array Value} {below : List Frame} {meth : Method} {c : Code} {cells slots : Nat} {Q : State → Prop} {cc : ByteArray} {nL : Nat} {ret : Option FieldType} {pc : Nat} {lv : List (Nat × Value)} {st : List Value} {σ : zSt} (C : zCx G p s m args meth c "VillageWaves" cc nL ret) {g o : Nat} {fs : List Value} {v : Value} (hlive : (g, o) ∈ zL G) (he : zct G σ g o = .inr (7, fs)) (hv : fs[8]? = some v) (d : decode cc pc = .ok (.getfield 182, 3)) (kk : zWV G p l e R s m args below meth c nL cells slots Q (pc + 3) lv (v :: st) σ) : zWV G p l e R s m args below meth c nL cells slots Q pc lv (.ref (zad G g o) :: st) σ :=
  z_getN C zin_7 rfl 8 (by decide) zp281 rfl hlive he hv d kk
theorem gf_Waves_185 {G : zLA} {p : Program} {l : Launch} {e : Env} {R : Room} {s : State} {m : MethodId} {args : Array Value} {below : List Frame} {meth : Method} {c : Code} {cells slots : Nat} {Q : State → Prop} {cc : ByteArray} {nL : Nat} {ret : Option FieldType} {pc : Nat} {lv : List (Nat × Value)} {st : List Value} {σ : zSt} (C : zCx G p s m args meth c "VillageWaves" cc nL ret) {g o : Nat} {fs : List Value} {v : Value} (hlive : (g, o) ∈ zL G) (he : zct G σ g o = .inr (1, fs)) (hv : fs[1]? = some v) (d : decode cc pc = .ok (.getfield 185, 3)) (kk : zWV G p l e R s m args below meth c nL cells slots Q (pc + 3) lv (v :: st) σ) : zWV G p l e R s m args below meth c nL cells slots Q pc lv (.ref (zad G g o) :: st) σ :=
  z_getN C zin_1 rfl 1 (by decide) zp93 rfl hlive he hv d kk
theorem gf_Waves_188 {G : zLA} {p : Program} {l : Launch} {e : Env} {R : Room} {s : State} {m : MethodId} {args : Array Value} {below : List Frame} {meth : Method} {c : Code} {cells slots : Nat} {Q : State → Prop} {cc : ByteArray} {nL : Nat} {ret : Option FieldType} {pc : Nat} {lv : List (Nat × Value)} {st : List Value} {σ : zSt} (C : zCx G p s m args meth c "VillageWaves" cc nL ret) {g o : Nat} {fs : List Value} {v : Value} (hlive : (g, o) ∈ zL G) (he : zct G σ g o = .inr (1, fs)) (hv : fs[2]? = some v) (d : decode cc pc = .ok (.getfield 188, 3)) (kk : zWV G p l e R s m args below meth c nL cells slots Q (pc + 3) lv (v :: st) σ) : zWV G p l e R s m args below meth c nL cells slots Q pc lv (.ref (zad G g o) :: st) σ :=
  z_getN C zin_1 rfl 2 (by decide) zp95 rfl hlive he hv d kk
theorem gf_Waves_191 {G : zLA} {p : Program} {l : Launch} {e : Env} {R : Room} {s : State} {m : MethodId} {args : Array Value} {below : List Frame} {meth : Method} {c : Code} {cells slots : Nat} {Q : State → Prop} {cc : ByteArray} {nL : Nat} {ret : Option FieldType} {pc : Nat} {lv : List (Nat × Value)} {st : List Value} {σ : zSt} (C : zCx G p s m args meth c "VillageWaves" cc nL ret) {g o : Nat} {fs : List Value} {v : Value} (hlive : (g, o) ∈ zL G) (he : zct G σ g o = .inr (1, fs)) (hv : fs[3]? = some v) (d : decode cc pc = .ok (.getfield 191, 3)) (kk : zWV G p l e R s m args below meth c nL cells slots Q (pc + 3) lv (v :: st) σ) : zWV G p l e R s m args below meth c nL cells slots Q pc lv (.ref (zad G g o) :: st) σ :=
  z_getN C zin_1 rfl 3 (by decide) zp97 rfl hlive he hv d kk
theorem gf_Waves_194 {G : zLA} {p : Program} {l : Launch} {e : Env} {R : Room} {s : State} {m : MethodId} {args : Array Value} {below : List Frame} {meth : Method} {c : Code} {cells slots : Nat} {Q : State → Prop} {cc : ByteArray} {nL : Nat} {ret : Option FieldType} {pc : Nat} {lv : List (Nat × Value)} {st : List Value} {σ : zSt} (C : zCx G p s m args meth c "VillageWaves" cc nL ret) {g o : Nat} {fs : List Value} {v : Value} (hlive : (g, o) ∈ zL G) (he : zct G σ g o = .inr (1, fs)) (hv : fs[5]? = some v) (d : decode cc pc = .ok (.getfield 194, 3)) (kk : zWV G p l e R s m args below meth c nL cells slots Q (pc + 3) lv (v :: st) σ) : zWV G p l e R s m args below meth c nL cells slots Q pc lv (.ref (zad G g o) :: st) σ :=
  z_getN C zin_1 rfl 5 (by decide) zp102 rfl hlive he hv d kk
theorem kl_Waves_197 : zLV "VillageWaves" 197 "VillageWaves$Homes" y_Homes_isQuiet b_Homes_isQuiet 5 (some .boolean) 2 := ⟨zq639, zq602, zq603, zq32, zq604, rfl, ⟨by decide, by decide, by decide +kernel⟩⟩
theorem gf_Waves_201 {G : zLA} {p : Program} {l : Launch} {e : Env} {R : Room} {s : State} {m : MethodId} {args : Array Value} {below : List Frame} {meth : Method} {c : Code} {cells slots : Nat} {Q : State → Prop} {cc : ByteArray} {nL : Nat} {ret : Option FieldType} {pc : Nat} {lv : List (Nat × Value)} {st : List Value} {σ : zSt} (C : zCx G p s m args meth c "VillageWaves" cc nL ret) {g o : Nat} {fs : List Value} {v : Value} (hlive : (g, o) ∈ zL G) (he : zct G σ g o = .inr (1, fs)) (hv : fs[8]? = some v) (d : decode cc pc = .ok (.getfield 201, 3)) (kk : zWV G p l e R s m args below meth c nL cells slots Q (pc + 3) lv (v :: st) σ) : zWV G p l e R s m args below meth c nL cells slots Q pc lv (.ref (zad G g o) :: st) σ :=
  z_getN C zin_1 rfl 8 (by decide) zp110 rfl hlive he hv d kk
theorem gf_Waves_204 {G : zLA} {p : Program} {l : Launch} {e : Env} {R : Room} {s : State} {m : MethodId} {args : Array Value} {below : List Frame} {meth : Method} {c : Code} {cells slots : Nat} {Q : State → Prop} {cc : ByteArray} {nL : Nat} {ret : Option FieldType} {pc : Nat} {lv : List (Nat × Value)} {st : List Value} {σ : zSt} (C : zCx G p s m args meth c "VillageWaves" cc nL ret) {g o : Nat} {fs : List Value} {v : Value} (hlive : (g, o) ∈ zL G) (he : zct G σ g o = .inr (1, fs)) (hv : fs[9]? = some v) (d : decode cc pc = .ok (.getfield 204, 3)) (kk : zWV G p l e R s m args below meth c nL cells slots Q (pc + 3) lv (v :: st) σ) : zWV G p l e R s m args below meth c nL cells slots Q pc lv (.ref (zad G g o) :: st) σ :=
  z_getN C zin_1 rfl 9 (by decide) zp112 rfl hlive he hv d kk
theorem kl_Waves_207 : zLV "VillageWaves" 207 "VillageWaves$Tidings" y_Tidings_newsKnownAt b_Tidings_newsKnownAt 4 (some .int) 1 := ⟨zq640, zq641, zq642, zq33, zq643, rfl, ⟨by decide, by decide, by decide +kernel⟩⟩
theorem kl_Waves_210 : zLV "VillageWaves" 210 "VillageWaves$Tidings" y_Tidings_correctionsKnownAt b_Tidings_correctionsKnownAt 4 (some .int) 1 := ⟨zq648, zq649, zq650, zq33, zq651, rfl, ⟨by decide, by decide, by decide +kernel⟩⟩
theorem kl_Waves_213 : zLV "VillageWaves" 213 "VillageWaves$Tidings" y_Tidings_uncorrectedAt b_Tidings_uncorrectedAt 4 (some .int) 1 := ⟨zq652, zq653, zq654, zq33, zq655, rfl, ⟨by decide, by decide, by decide +kernel⟩⟩
theorem kl_Waves_216 : zLV "VillageWaves" 216 "VillageWaves$Entries" y_Entries_size b_Entries_size 2 (some .int) 1 := ⟨zq660, zq622, zq623, zq34, zq624, rfl, ⟨by decide, by decide, by decide +kernel⟩⟩
theorem gf_Waves_219 {G : zLA} {p : Program} {l : Launch} {e : Env} {R : Room} {s : State} {m : MethodId} {args : Array Value} {below : List Frame} {meth : Method} {c : Code} {cells slots : Nat} {Q : State → Prop} {cc : ByteArray} {nL : Nat} {ret : Option FieldType} {pc : Nat} {lv : List (Nat × Value)} {st : List Value} {σ : zSt} (C : zCx G p s m args meth c "VillageWaves" cc nL ret) {g o : Nat} {fs : List Value} {v : Value} (hlive : (g, o) ∈ zL G) (he : zct G σ g o = .inr (1, fs)) (hv : fs[10]? = some v) (d : decode cc pc = .ok (.getfield 219, 3)) (kk : zWV G p l e R s m args below meth c nL cells slots Q (pc + 3) lv (v :: st) σ) : zWV G p l e R s m args below meth c nL cells slots Q pc lv (.ref (zad G g o) :: st) σ :=
  z_getN C zin_1 rfl 10 (by decide) zp116 rfl hlive he hv d kk
theorem kl_Waves_357 : zLV "VillageWaves" 357 "VillageWaves$Entries" y_Entries_time b_Entries_time 3 (some .int) 2 := ⟨zq979, zq871, zq872, zq34, zq873, rfl, ⟨by decide, by decide, by decide +kernel⟩⟩
theorem kl_Waves_359 : zLV "VillageWaves" 359 "VillageWaves$Village" y_Village_sendableCorrections b_Village_sendableCorrections 6 (some .int) 1 := ⟨zq980, zq812, zq813, zq29, zq814, rfl, ⟨by decide, by decide, by decide +kernel⟩⟩
theorem kl_Waves_289 : zLS "VillageWaves" 289 y_Waves_contains b_Waves_contains 2 (some .boolean) 2 := ⟨zq711, zq645, zq28, zq646, ⟨by decide, by decide, by decide +kernel⟩⟩
theorem gf_Waves_362 {G : zLA} {p : Program} {l : Launch} {e : Env} {R : Room} {s : State} {m : MethodId} {args : Array Value} {below : List Frame} {meth : Method} {c : Code} {cells slots : Nat} {Q : State → Prop} {cc : ByteArray} {nL : Nat} {ret : Option FieldType} {pc : Nat} {lv : List (Nat × Value)} {st : List Value} {σ : zSt} (C : zCx G p s m args meth c "VillageWaves" cc nL ret) {g o : Nat} {fs : List Value} {v : Value} (hlive : (g, o) ∈ zL G) (he : zct G σ g o = .inr (7, fs)) (hv : fs[9]? = some v) (d : decode cc pc = .ok (.getfield 362, 3)) (kk : zWV G p l e R s m args below meth c nL cells slots Q (pc + 3) lv (v :: st) σ) : zWV G p l e R s m args below meth c nL cells slots Q pc lv (.ref (zad G g o) :: st) σ :=
  z_getN C zin_7 rfl 9 (by decide) zp283 rfl hlive he hv d kk
theorem kl_Waves_274 : zLS "VillageWaves" 274 y_Waves_cell b_Waves_cell 2 (some .int) 2 := ⟨zq956, zq682, zq28, zq683, ⟨by decide, by decide, by decide +kernel⟩⟩
theorem kl_Waves_227 : zLV "VillageWaves" 227 "VillageWaves$Entries" y_Entries_at b_Entries_at 5 (some .int) 2 := ⟨zq969, zq970, zq971, zq34, zq972, rfl, ⟨by decide, by decide, by decide +kernel⟩⟩
theorem kl_Waves_235 : zLV "VillageWaves" 235 "VillageWaves" y_Waves_newsEntryFact b_Waves_newsEntryFact 4 (some .int) 3 := ⟨zq981, zq983, zq23, zq28, zq984, rfl, ⟨by decide, by decide, by decide +kernel⟩⟩
theorem kl_Waves_231 : zLV "VillageWaves" 231 "VillageWaves" y_Waves_correctionEntryFact b_Waves_correctionEntryFact 4 (some .int) 3 := ⟨zq975, zq977, zq22, zq28, zq978, rfl, ⟨by decide, by decide, by decide +kernel⟩⟩
theorem kl_Waves_238 : zLV "VillageWaves" 238 "VillageWaves" y_Waves_checkNews b_Waves_checkNews 2 none 1 := ⟨zq698, zq700, zq8, zq28, zq701, rfl, ⟨by decide, by decide, by decide +kernel⟩⟩
theorem gf_Waves_241 {G : zLA} {p : Program} {l : Launch} {e : Env} {R : Room} {s : State} {m : MethodId} {args : Array Value} {below : List Frame} {meth : Method} {c : Code} {cells slots : Nat} {Q : State → Prop} {cc : ByteArray} {nL : Nat} {ret : Option FieldType} {pc : Nat} {lv : List (Nat × Value)} {st : List Value} {σ : zSt} (C : zCx G p s m args meth c "VillageWaves" cc nL ret) {g o : Nat} {fs : List Value} {v : Value} (hlive : (g, o) ∈ zL G) (he : zct G σ g o = .inr (6, fs)) (hv : fs[1]? = some v) (d : decode cc pc = .ok (.getfield 241, 3)) (kk : zWV G p l e R s m args below meth c nL cells slots Q (pc + 3) lv (v :: st) σ) : zWV G p l e R s m args below meth c nL cells slots Q pc lv (.ref (zad G g o) :: st) σ :=
  z_getN C zin_6 rfl 1 (by decide) zp152 rfl hlive he hv d kk
theorem gf_Waves_244 {G : zLA} {p : Program} {l : Launch} {e : Env} {R : Room} {s : State} {m : MethodId} {args : Array Value} {below : List Frame} {meth : Method} {c : Code} {cells slots : Nat} {Q : State → Prop} {cc : ByteArray} {nL : Nat} {ret : Option FieldType} {pc : Nat} {lv : List (Nat × Value)} {st : List Value} {σ : zSt} (C : zCx G p s m args meth c "VillageWaves" cc nL ret) {g o : Nat} {fs : List Value} {v : Value} (hlive : (g, o) ∈ zL G) (he : zct G σ g o = .inr (6, fs)) (hv : fs[2]? = some v) (d : decode cc pc = .ok (.getfield 244, 3)) (kk : zWV G p l e R s m args below meth c nL cells slots Q (pc + 3) lv (v :: st) σ) : zWV G p l e R s m args below meth c nL cells slots Q pc lv (.ref (zad G g o) :: st) σ :=
  z_getN C zin_6 rfl 2 (by decide) zp154 rfl hlive he hv d kk
theorem gf_Waves_247 {G : zLA} {p : Program} {l : Launch} {e : Env} {R : Room} {s : State} {m : MethodId} {args : Array Value} {below : List Frame} {meth : Method} {c : Code} {cells slots : Nat} {Q : State → Prop} {cc : ByteArray} {nL : Nat} {ret : Option FieldType} {pc : Nat} {lv : List (Nat × Value)} {st : List Value} {σ : zSt} (C : zCx G p s m args meth c "VillageWaves" cc nL ret) {g o : Nat} {fs : List Value} {v : Value} (hlive : (g, o) ∈ zL G) (he : zct G σ g o = .inr (6, fs)) (hv : fs[3]? = some v) (d : decode cc pc = .ok (.getfield 247, 3)) (kk : zWV G p l e R s m args below meth c nL cells slots Q (pc + 3) lv (v :: st) σ) : zWV G p l e R s m args below meth c nL cells slots Q pc lv (.ref (zad G g o) :: st) σ :=
  z_getN C zin_6 rfl 3 (by decide) zp156 rfl hlive he hv d kk
theorem gf_Waves_250 {G : zLA} {p : Program} {l : Launch} {e : Env} {R : Room} {s : State} {m : MethodId} {args : Array Value} {below : List Frame} {meth : Method} {c : Code} {cells slots : Nat} {Q : State → Prop} {cc : ByteArray} {nL : Nat} {ret : Option FieldType} {pc : Nat} {lv : List (Nat × Value)} {st : List Value} {σ : zSt} (C : zCx G p s m args meth c "VillageWaves" cc nL ret) {g o : Nat} {fs : List Value} {v : Value} (hlive : (g, o) ∈ zL G) (he : zct G σ g o = .inr (6, fs)) (hv : fs[4]? = some v) (d : decode cc pc = .ok (.getfield 250, 3)) (kk : zWV G p l e R s m args below meth c nL cells slots Q (pc + 3) lv (v :: st) σ) : zWV G p l e R s m args below meth c nL cells slots Q pc lv (.ref (zad G g o) :: st) σ :=
  z_getN C zin_6 rfl 4 (by decide) zp159 rfl hlive he hv d kk
theorem gf_Waves_253 {G : zLA} {p : Program} {l : Launch} {e : Env} {R : Room} {s : State} {m : MethodId} {args : Array Value} {below : List Frame} {meth : Method} {c : Code} {cells slots : Nat} {Q : State → Prop} {cc : ByteArray} {nL : Nat} {ret : Option FieldType} {pc : Nat} {lv : List (Nat × Value)} {st : List Value} {σ : zSt} (C : zCx G p s m args meth c "VillageWaves" cc nL ret) {g o : Nat} {fs : List Value} {v : Value} (hlive : (g, o) ∈ zL G) (he : zct G σ g o = .inr (6, fs)) (hv : fs[5]? = some v) (d : decode cc pc = .ok (.getfield 253, 3)) (kk : zWV G p l e R s m args below meth c nL cells slots Q (pc + 3) lv (v :: st) σ) : zWV G p l e R s m args below meth c nL cells slots Q pc lv (.ref (zad G g o) :: st) σ :=
  z_getN C zin_6 rfl 5 (by decide) zp162 rfl hlive he hv d kk
theorem gf_Waves_256 {G : zLA} {p : Program} {l : Launch} {e : Env} {R : Room} {s : State} {m : MethodId} {args : Array Value} {below : List Frame} {meth : Method} {c : Code} {cells slots : Nat} {Q : State → Prop} {cc : ByteArray} {nL : Nat} {ret : Option FieldType} {pc : Nat} {lv : List (Nat × Value)} {st : List Value} {σ : zSt} (C : zCx G p s m args meth c "VillageWaves" cc nL ret) {g o : Nat} {fs : List Value} {v : Value} (hlive : (g, o) ∈ zL G) (he : zct G σ g o = .inr (6, fs)) (hv : fs[6]? = some v) (d : decode cc pc = .ok (.getfield 256, 3)) (kk : zWV G p l e R s m args below meth c nL cells slots Q (pc + 3) lv (v :: st) σ) : zWV G p l e R s m args below meth c nL cells slots Q pc lv (.ref (zad G g o) :: st) σ :=
  z_getN C zin_6 rfl 6 (by decide) zp165 rfl hlive he hv d kk
theorem gf_Waves_259 {G : zLA} {p : Program} {l : Launch} {e : Env} {R : Room} {s : State} {m : MethodId} {args : Array Value} {below : List Frame} {meth : Method} {c : Code} {cells slots : Nat} {Q : State → Prop} {cc : ByteArray} {nL : Nat} {ret : Option FieldType} {pc : Nat} {lv : List (Nat × Value)} {st : List Value} {σ : zSt} (C : zCx G p s m args meth c "VillageWaves" cc nL ret) {g o : Nat} {fs : List Value} {v : Value} (hlive : (g, o) ∈ zL G) (he : zct G σ g o = .inr (6, fs)) (hv : fs[7]? = some v) (d : decode cc pc = .ok (.getfield 259, 3)) (kk : zWV G p l e R s m args below meth c nL cells slots Q (pc + 3) lv (v :: st) σ) : zWV G p l e R s m args below meth c nL cells slots Q pc lv (.ref (zad G g o) :: st) σ :=
  z_getN C zin_6 rfl 7 (by decide) zp167 rfl hlive he hv d kk
theorem gf_Waves_262 {G : zLA} {p : Program} {l : Launch} {e : Env} {R : Room} {s : State} {m : MethodId} {args : Array Value} {below : List Frame} {meth : Method} {c : Code} {cells slots : Nat} {Q : State → Prop} {cc : ByteArray} {nL : Nat} {ret : Option FieldType} {pc : Nat} {lv : List (Nat × Value)} {st : List Value} {σ : zSt} (C : zCx G p s m args meth c "VillageWaves" cc nL ret) {g o : Nat} {fs : List Value} {v : Value} (hlive : (g, o) ∈ zL G) (he : zct G σ g o = .inr (6, fs)) (hv : fs[8]? = some v) (d : decode cc pc = .ok (.getfield 262, 3)) (kk : zWV G p l e R s m args below meth c nL cells slots Q (pc + 3) lv (v :: st) σ) : zWV G p l e R s m args below meth c nL cells slots Q pc lv (.ref (zad G g o) :: st) σ :=
  z_getN C zin_6 rfl 8 (by decide) zp171 rfl hlive he hv d kk
theorem kl_Waves_265 : zLV "VillageWaves" 265 "VillageWaves$Tidings" y_Tidings_uncorrectedHouses b_Tidings_uncorrectedHouses 2 (some .int) 1 := ⟨zq703, zq657, zq658, zq33, zq659, rfl, ⟨by decide, by decide, by decide +kernel⟩⟩
theorem gf_Waves_268 {G : zLA} {p : Program} {l : Launch} {e : Env} {R : Room} {s : State} {m : MethodId} {args : Array Value} {below : List Frame} {meth : Method} {c : Code} {cells slots : Nat} {Q : State → Prop} {cc : ByteArray} {nL : Nat} {ret : Option FieldType} {pc : Nat} {lv : List (Nat × Value)} {st : List Value} {σ : zSt} (C : zCx G p s m args meth c "VillageWaves" cc nL ret) {g o : Nat} {fs : List Value} {v : Value} (hlive : (g, o) ∈ zL G) (he : zct G σ g o = .inr (6, fs)) (hv : fs[9]? = some v) (d : decode cc pc = .ok (.getfield 268, 3)) (kk : zWV G p l e R s m args below meth c nL cells slots Q (pc + 3) lv (v :: st) σ) : zWV G p l e R s m args below meth c nL cells slots Q pc lv (.ref (zad G g o) :: st) σ :=
  z_getN C zin_6 rfl 9 (by decide) zp173 rfl hlive he hv d kk
theorem gf_Waves_271 {G : zLA} {p : Program} {l : Launch} {e : Env} {R : Room} {s : State} {m : MethodId} {args : Array Value} {below : List Frame} {meth : Method} {c : Code} {cells slots : Nat} {Q : State → Prop} {cc : ByteArray} {nL : Nat} {ret : Option FieldType} {pc : Nat} {lv : List (Nat × Value)} {st : List Value} {σ : zSt} (C : zCx G p s m args meth c "VillageWaves" cc nL ret) {g o : Nat} {fs : List Value} {v : Value} (hlive : (g, o) ∈ zL G) (he : zct G σ g o = .inr (7, fs)) (hv : fs[10]? = some v) (d : decode cc pc = .ok (.getfield 271, 3)) (kk : zWV G p l e R s m args below meth c nL cells slots Q (pc + 3) lv (v :: st) σ) : zWV G p l e R s m args below meth c nL cells slots Q pc lv (.ref (zad G g o) :: st) σ :=
  z_getN C zin_7 rfl 10 (by decide) zp285 rfl hlive he hv d kk
theorem kl_Waves_277 : zLV "VillageWaves" 277 "VillageWaves$Village" y_Village_owedBy b_Village_owedBy 4 (some .int) 2 := ⟨zq736, zq731, zq732, zq29, zq733, rfl, ⟨by decide, by decide, by decide +kernel⟩⟩
theorem kl_Waves_282 : zLV "VillageWaves" 282 "VillageWaves$Journal" y_Journal_fact b_Journal_fact 3 (some .int) 2 := ⟨zq932, zq933, zq934, zq35, zq935, rfl, ⟨by decide, by decide, by decide +kernel⟩⟩
theorem kl_Waves_285 : zLV "VillageWaves" 285 "VillageWaves$Tidings" y_Tidings_isFull b_Tidings_isFull 1 (some .boolean) 0 := ⟨zq668, zq669, zq670, zq33, zq671, rfl, ⟨by decide, by decide, by decide +kernel⟩⟩
theorem kl_Waves_286 : zLV "VillageWaves" 286 "VillageWaves$Village" y_Village_addNews b_Village_addNews 5 (some .int) 2 := ⟨zq672, zq673, zq674, zq29, zq675, rfl, ⟨by decide, by decide, by decide +kernel⟩⟩
theorem kl_Waves_292 : zLV "VillageWaves" 292 "VillageWaves$Tidings" y_Tidings_isCorrected b_Tidings_isCorrected 2 (some .boolean) 1 := ⟨zq712, zq613, zq614, zq33, zq615, rfl, ⟨by decide, by decide, by decide +kernel⟩⟩
theorem kl_Waves_296 : zLV "VillageWaves" 296 "VillageWaves$Village" y_Village_addCorrection b_Village_addCorrection 4 none 3 := ⟨zq713, zq714, zq715, zq29, zq716, rfl, ⟨by decide, by decide, by decide +kernel⟩⟩
theorem kl_Waves_299 : zLS "VillageWaves" 299 y_Integer_bitCount b_Integer_bitCount 1 (some .int) 1 := ⟨zq737, zq627, zq45, zq628, ⟨by decide, by decide, by decide +kernel⟩⟩
theorem kl_Waves_304 : zLV "VillageWaves" 304 "VillageWaves$Village" y_Village_pass b_Village_pass 3 none 1 := ⟨zq846, zq847, zq848, zq29, zq849, rfl, ⟨by decide, by decide, by decide +kernel⟩⟩
theorem gf_Waves_16 {G : zLA} {p : Program} {l : Launch} {e : Env} {R : Room} {s : State} {m : MethodId} {args : Array Value} {below : List Frame} {meth : Method} {c : Code} {cells slots : Nat} {Q : State → Prop} {cc : ByteArray} {nL : Nat} {ret : Option FieldType} {pc : Nat} {lv : List (Nat × Value)} {st : List Value} {σ : zSt} (C : zCx G p s m args meth c "VillageWaves" cc nL ret) {g o : Nat} {fs : List Value} {v : Value} (hlive : (g, o) ∈ zL G) (he : zct G σ g o = .inr (8, fs)) (hv : fs[1]? = some v) (d : decode cc pc = .ok (.getfield 16, 3)) (kk : zWV G p l e R s m args below meth c nL cells slots Q (pc + 3) lv (v :: st) σ) : zWV G p l e R s m args below meth c nL cells slots Q pc lv (.ref (zad G g o) :: st) σ :=
  z_get C zin_8 rfl 1 (by decide) zq360 rfl hlive he hv d kk
theorem kl_Waves_64 : zLV "VillageWaves" 64 "VillageWaves$Village" y_Village_copyFrom b_Village_copyFrom 2 none 1 := ⟨zq758, zq759, zq760, zq29, zq761, rfl, ⟨by decide, by decide, by decide +kernel⟩⟩
theorem kl_Waves_351 : zLV "VillageWaves" 351 "VillageWaves$Village" y_Village_beginDay b_Village_beginDay 1 none 0 := ⟨zq792, zq793, zq794, zq29, zq795, rfl, ⟨by decide, by decide, by decide +kernel⟩⟩
theorem kl_Waves_354 : zLV "VillageWaves" 354 "VillageWaves$Village" y_Village_wishing b_Village_wishing 5 (some .int) 0 := ⟨zq807, zq808, zq809, zq29, zq810, rfl, ⟨by decide, by decide, by decide +kernel⟩⟩
theorem kl_Waves_307 : zLV "VillageWaves" 307 "VillageWaves" y_Waves_wishingInDraft b_Waves_wishingInDraft 1 (some .int) 0 := ⟨zq754, zq756, zq11, zq28, zq757, rfl, ⟨by decide, by decide, by decide +kernel⟩⟩
theorem kl_Waves_310 : zLV "VillageWaves" 310 "VillageWaves$Village" y_Village_drawnOf b_Village_drawnOf 4 (some .int) 1 := ⟨zq825, zq826, zq827, zq29, zq828, rfl, ⟨by decide, by decide, by decide +kernel⟩⟩
theorem kl_Waves_313 : zLV "VillageWaves" 313 "VillageWaves$Homes" y_Homes_sharesOf b_Homes_sharesOf 4 (some .int) 1 := ⟨zq913, zq830, zq831, zq32, zq832, rfl, ⟨by decide, by decide, by decide +kernel⟩⟩
theorem kl_Waves_326 : zLV "VillageWaves" 326 "VillageWaves$Village" y_Village_minute b_Village_minute 6 none 0 := ⟨zq1003, zq851, zq852, zq29, zq853, rfl, ⟨by decide, by decide, by decide +kernel⟩⟩
theorem kl_Waves_329 : zLV "VillageWaves" 329 "VillageWaves" y_Waves_sizesOf b_Waves_sizesOf 5 (some .int) 2 := ⟨zq901, zq903, zq19, zq28, zq904, rfl, ⟨by decide, by decide, by decide +kernel⟩⟩
theorem gf_Waves_333 {G : zLA} {p : Program} {l : Launch} {e : Env} {R : Room} {s : State} {m : MethodId} {args : Array Value} {below : List Frame} {meth : Method} {c : Code} {cells slots : Nat} {Q : State → Prop} {cc : ByteArray} {nL : Nat} {ret : Option FieldType} {pc : Nat} {lv : List (Nat × Value)} {st : List Value} {σ : zSt} (C : zCx G p s m args meth c "VillageWaves" cc nL ret) {g o : Nat} {fs : List Value} {v : Value} (hlive : (g, o) ∈ zL G) (he : zct G σ g o = .inr (7, fs)) (hv : fs[3]? = some v) (d : decode cc pc = .ok (.getfield 333, 3)) (kk : zWV G p l e R s m args below meth c nL cells slots Q (pc + 3) lv (v :: st) σ) : zWV G p l e R s m args below meth c nL cells slots Q pc lv (.ref (zad G g o) :: st) σ :=
  z_getN C zin_7 rfl 3 (by decide) zp271 rfl hlive he hv d kk
theorem gf_Waves_22 {G : zLA} {p : Program} {l : Launch} {e : Env} {R : Room} {s : State} {m : MethodId} {args : Array Value} {below : List Frame} {meth : Method} {c : Code} {cells slots : Nat} {Q : State → Prop} {cc : ByteArray} {nL : Nat} {ret : Option FieldType} {pc : Nat} {lv : List (Nat × Value)} {st : List Value} {σ : zSt} (C : zCx G p s m args meth c "VillageWaves" cc nL ret) {g o : Nat} {fs : List Value} {v : Value} (hlive : (g, o) ∈ zL G) (he : zct G σ g o = .inr (8, fs)) (hv : fs[3]? = some v) (d : decode cc pc = .ok (.getfield 22, 3)) (kk : zWV G p l e R s m args below meth c nL cells slots Q (pc + 3) lv (v :: st) σ) : zWV G p l e R s m args below meth c nL cells slots Q pc lv (.ref (zad G g o) :: st) σ :=
  z_get C zin_8 rfl 3 (by decide) zq362 rfl hlive he hv d kk
theorem gf_Waves_19 {G : zLA} {p : Program} {l : Launch} {e : Env} {R : Room} {s : State} {m : MethodId} {args : Array Value} {below : List Frame} {meth : Method} {c : Code} {cells slots : Nat} {Q : State → Prop} {cc : ByteArray} {nL : Nat} {ret : Option FieldType} {pc : Nat} {lv : List (Nat × Value)} {st : List Value} {σ : zSt} (C : zCx G p s m args meth c "VillageWaves" cc nL ret) {g o : Nat} {fs : List Value} {v : Value} (hlive : (g, o) ∈ zL G) (he : zct G σ g o = .inr (8, fs)) (hv : fs[2]? = some v) (d : decode cc pc = .ok (.getfield 19, 3)) (kk : zWV G p l e R s m args below meth c nL cells slots Q (pc + 3) lv (v :: st) σ) : zWV G p l e R s m args below meth c nL cells slots Q pc lv (.ref (zad G g o) :: st) σ :=
  z_get C zin_8 rfl 2 (by decide) zq361 rfl hlive he hv d kk
theorem kl_Waves_336 : zLV "VillageWaves" 336 "VillageWaves" y_Waves_savedIn b_Waves_savedIn 2 (some (.object "VillageWaves$Village")) 1 := ⟨zq1011, zq1013, zq25, zq28, zq1014, rfl, ⟨by decide, by decide, by decide +kernel⟩⟩
theorem gf_Waves_25 {G : zLA} {p : Program} {l : Launch} {e : Env} {R : Room} {s : State} {m : MethodId} {args : Array Value} {below : List Frame} {meth : Method} {c : Code} {cells slots : Nat} {Q : State → Prop} {cc : ByteArray} {nL : Nat} {ret : Option FieldType} {pc : Nat} {lv : List (Nat × Value)} {st : List Value} {σ : zSt} (C : zCx G p s m args meth c "VillageWaves" cc nL ret) {g o : Nat} {fs : List Value} {v : Value} (hlive : (g, o) ∈ zL G) (he : zct G σ g o = .inr (8, fs)) (hv : fs[4]? = some v) (d : decode cc pc = .ok (.getfield 25, 3)) (kk : zWV G p l e R s m args below meth c nL cells slots Q (pc + 3) lv (v :: st) σ) : zWV G p l e R s m args below meth c nL cells slots Q pc lv (.ref (zad G g o) :: st) σ :=
  z_get C zin_8 rfl 4 (by decide) zq363 rfl hlive he hv d kk
theorem kl_Waves_340 : zLS "VillageWaves" 340 y_Waves_bit b_Waves_bit 1 (some .int) 1 := ⟨zq1015, zq606, zq28, zq607, ⟨by decide, by decide, by decide +kernel⟩⟩
theorem pf_Waves_25 {G : zLA} {p : Program} {l : Launch} {e : Env} {R : Room} {s : State} {m : MethodId} {args : Array Value} {below : List Frame} {meth : Method} {c : Code} {cells slots : Nat} {Q : State → Prop} {cc : ByteArray} {nL : Nat} {ret : Option FieldType} {pc : Nat} {lv : List (Nat × Value)} {st : List Value} {σ : zSt} (C : zCx G p s m args meth c "VillageWaves" cc nL ret) {g o : Nat} {fs : List Value} {v : Int32} (hlive : (g, o) ∈ zL G) (he : zct G σ g o = .inr (8, fs)) (hl0 : 4 < fs.length) (hset : zshp G g o (upd (σ.1 g o) 4 v) (σ.2.1 o) (σ.2.2 o) = .inr (8, fs.set 4 (.int v))) (d : decode cc pc = .ok (.putfield 25, 3)) (kk : zWV G p l e R s m args below meth c nL cells slots Q (pc + 3) lv st (zst σ g o 4 v)) : zWV G p l e R s m args below meth c nL cells slots Q pc lv (.int v :: .ref (zad G g o) :: st) σ :=
  z_put C zin_8 zy8 zn8 rfl 4 (by decide) zq363 rfl rfl rfl hlive he hl0 hset d kk
theorem kl_Law_39 : zLV "VillageWavesLaw" 39 "VillageWaves" y_Waves_addHouse b_Waves_addHouse 6 (some .int) 5 := ⟨zq414, zq415, zq416, zq28, zq417, rfl, ⟨by decide, by decide, by decide +kernel⟩⟩
theorem kl_Law_47 : zLV "VillageWavesLaw" 47 "VillageWaves" y_Waves_setQuiet b_Waves_setQuiet 4 none 3 := ⟨zq534, zq535, zq536, zq28, zq537, rfl, ⟨by decide, by decide, by decide +kernel⟩⟩
theorem kl_Law_53 : zLV "VillageWavesLaw" 53 "VillageWaves" y_Waves_charge b_Waves_charge 3 (some .int) 2 := ⟨zq940, zq941, zq942, zq28, zq943, rfl, ⟨by decide, by decide, by decide +kernel⟩⟩
theorem kl_Law_56 : zLV "VillageWavesLaw" 56 "VillageWaves" y_Waves_set b_Waves_set 4 (some .int) 2 := ⟨zq563, zq564, zq565, zq28, zq566, rfl, ⟨by decide, by decide, by decide +kernel⟩⟩
theorem kl_Law_59 : zLV "VillageWavesLaw" 59 "VillageWaves" y_Waves_seed b_Waves_seed 2 none 1 := ⟨zq577, zq578, zq579, zq28, zq580, rfl, ⟨by decide, by decide, by decide +kernel⟩⟩
theorem kl_Law_63 : zLV "VillageWavesLaw" 63 "VillageWaves" y_Waves_count b_Waves_count 2 (some .int) 1 := ⟨zq589, zq590, zq591, zq28, zq592, rfl, ⟨by decide, by decide, by decide +kernel⟩⟩
theorem kl_Law_67 : zLV "VillageWavesLaw" 67 "VillageWaves" y_Waves_house b_Waves_house 3 (some .int) 2 := ⟨zq635, zq636, zq637, zq28, zq638, rfl, ⟨by decide, by decide, by decide +kernel⟩⟩
theorem kl_Law_70 : zLV "VillageWavesLaw" 70 "VillageWaves" y_Waves_entry b_Waves_entry 6 (some .int) 3 := ⟨zq964, zq965, zq966, zq28, zq967, rfl, ⟨by decide, by decide, by decide +kernel⟩⟩
theorem kl_Law_74 : zLV "VillageWavesLaw" 74 "VillageWaves" y_Waves_news b_Waves_news 3 (some .int) 2 := ⟨zq694, zq695, zq696, zq28, zq697, rfl, ⟨by decide, by decide, by decide +kernel⟩⟩
theorem kl_Law_77 : zLV "VillageWavesLaw" 77 "VillageWaves" y_Waves_source b_Waves_source 3 (some .int) 2 := ⟨zq952, zq953, zq954, zq28, zq955, rfl, ⟨by decide, by decide, by decide +kernel⟩⟩
theorem kl_Law_80 : zLV "VillageWavesLaw" 80 "VillageWaves" y_Waves_owes b_Waves_owes 3 (some .int) 2 := ⟨zq741, zq742, zq743, zq28, zq744, rfl, ⟨by decide, by decide, by decide +kernel⟩⟩
theorem kl_Law_83 : zLV "VillageWavesLaw" 83 "VillageWaves" y_Waves_spoken b_Waves_spoken 3 (some .int) 2 := ⟨zq927, zq928, zq929, zq28, zq930, rfl, ⟨by decide, by decide, by decide +kernel⟩⟩
theorem kl_Law_86 : zLV "VillageWavesLaw" 86 "VillageWaves" y_Waves_tell b_Waves_tell 3 (some .int) 2 := ⟨zq664, zq665, zq666, zq28, zq667, rfl, ⟨by decide, by decide, by decide +kernel⟩⟩
theorem kl_Law_89 : zLV "VillageWavesLaw" 89 "VillageWaves" y_Waves_correct b_Waves_correct 4 (some .int) 3 := ⟨zq707, zq708, zq709, zq28, zq710, rfl, ⟨by decide, by decide, by decide +kernel⟩⟩
theorem kl_Law_92 : zLV "VillageWavesLaw" 92 "VillageWaves" y_Waves_run b_Waves_run 3 (some .int) 1 := ⟨zq920, zq921, zq922, zq28, zq923, rfl, ⟨by decide, by decide, by decide +kernel⟩⟩
theorem kl_Law_95 : zLV "VillageWavesLaw" 95 "VillageWaves" y_Waves_chance b_Waves_chance 4 (some .double) 1 := ⟨zq909, zq910, zq911, zq28, zq912, rfl, ⟨by decide, by decide, by decide +kernel⟩⟩
theorem kl_Law_110 : zLV "VillageWavesLaw" 110 "VillageWaves" y_Waves_reached b_Waves_reached 4 (some .int) 3 := ⟨zq992, zq993, zq994, zq28, zq995, rfl, ⟨by decide, by decide, by decide +kernel⟩⟩
theorem kl_Law_113 : zLV "VillageWavesLaw" 113 "VillageWaves" y_Waves_correctedIn b_Waves_correctedIn 4 (some .int) 2 := ⟨zq999, zq1000, zq1001, zq28, zq1002, rfl, ⟨by decide, by decide, by decide +kernel⟩⟩
theorem kl_Law_116 : zLV "VillageWavesLaw" 116 "VillageWaves" y_Waves_ahead b_Waves_ahead 3 (some .int) 2 := ⟨zq842, zq843, zq844, zq28, zq845, rfl, ⟨by decide, by decide, by decide +kernel⟩⟩
theorem kl_Law_119 : zLV "VillageWavesLaw" 119 "VillageWaves" y_Waves_bestAuthor b_Waves_bestAuthor 7 (some .int) 1 := ⟨zq1031, zq1032, zq1033, zq28, zq1034, rfl, ⟨by decide, by decide, by decide +kernel⟩⟩
theorem kl_Law_122 : zLV "VillageWavesLaw" 122 "VillageWaves" y_Waves_save b_Waves_save 2 none 1 := ⟨zq1007, zq1008, zq1009, zq28, zq1010, rfl, ⟨by decide, by decide, by decide +kernel⟩⟩
theorem kl_Law_125 : zLV "VillageWavesLaw" 125 "VillageWaves" y_Waves_restore b_Waves_restore 2 none 1 := ⟨zq1019, zq1020, zq1021, zq28, zq1022, rfl, ⟨by decide, by decide, by decide +kernel⟩⟩
theorem gf_Law_18 {G : zLA} {p : Program} {l : Launch} {e : Env} {R : Room} {s : State} {m : MethodId} {args : Array Value} {below : List Frame} {meth : Method} {c : Code} {cells slots : Nat} {Q : State → Prop} {cc : ByteArray} {nL : Nat} {ret : Option FieldType} {pc : Nat} {lv : List (Nat × Value)} {st : List Value} {σ : zSt} (C : zCx G p s m args meth c "VillageWavesLaw" cc nL ret) {g o : Nat} {fs : List Value} {v : Value} (hlive : (g, o) ∈ zL G) (he : zct G σ g o = .inr (9, fs)) (hv : fs[1]? = some v) (d : decode cc pc = .ok (.getfield 18, 3)) (kk : zWV G p l e R s m args below meth c nL cells slots Q (pc + 3) lv (v :: st) σ) : zWV G p l e R s m args below meth c nL cells slots Q pc lv (.ref (zad G g o) :: st) σ :=
  z_get C zin_9 rfl 1 (by decide) zq379 rfl hlive he hv d kk
theorem gf_Law_22 {G : zLA} {p : Program} {l : Launch} {e : Env} {R : Room} {s : State} {m : MethodId} {args : Array Value} {below : List Frame} {meth : Method} {c : Code} {cells slots : Nat} {Q : State → Prop} {cc : ByteArray} {nL : Nat} {ret : Option FieldType} {pc : Nat} {lv : List (Nat × Value)} {st : List Value} {σ : zSt} (C : zCx G p s m args meth c "VillageWavesLaw" cc nL ret) {g o : Nat} {fs : List Value} {v : Value} (hlive : (g, o) ∈ zL G) (he : zct G σ g o = .inr (9, fs)) (hv : fs[2]? = some v) (d : decode cc pc = .ok (.getfield 22, 3)) (kk : zWV G p l e R s m args below meth c nL cells slots Q (pc + 3) lv (v :: st) σ) : zWV G p l e R s m args below meth c nL cells slots Q pc lv (.ref (zad G g o) :: st) σ :=
  z_get C zin_9 rfl 2 (by decide) zq380 rfl hlive he hv d kk
theorem kl_Law_32 : zLS "VillageWavesLaw" 32 y_Law_at b_Law_at 3 (some .int) 2 := ⟨zq401, zq402, zq27, zq403, ⟨by decide, by decide, by decide +kernel⟩⟩
theorem pf_Law_22 {G : zLA} {p : Program} {l : Launch} {e : Env} {R : Room} {s : State} {m : MethodId} {args : Array Value} {below : List Frame} {meth : Method} {c : Code} {cells slots : Nat} {Q : State → Prop} {cc : ByteArray} {nL : Nat} {ret : Option FieldType} {pc : Nat} {lv : List (Nat × Value)} {st : List Value} {σ : zSt} (C : zCx G p s m args meth c "VillageWavesLaw" cc nL ret) {g o : Nat} {fs : List Value} {v : Int32} (hlive : (g, o) ∈ zL G) (he : zct G σ g o = .inr (9, fs)) (hl0 : 2 < fs.length) (hset : zshp G g o (upd (σ.1 g o) 2 v) (σ.2.1 o) (σ.2.2 o) = .inr (9, fs.set 2 (.int v))) (d : decode cc pc = .ok (.putfield 22, 3)) (kk : zWV G p l e R s m args below meth c nL cells slots Q (pc + 3) lv st (zst σ g o 2 v)) : zWV G p l e R s m args below meth c nL cells slots Q pc lv (.int v :: .ref (zad G g o) :: st) σ :=
  z_put C zin_9 zy9 zn9 rfl 2 (by decide) zq380 rfl rfl rfl hlive he hl0 hset d kk
theorem kl_Law_128 : zLV "VillageWavesLaw" 128 "VillageWavesLaw" y_Law_draw b_Law_draw 3 (some .int) 1 := ⟨zq396, zq398, zq2, zq27, zq399, rfl, ⟨by decide, by decide, by decide +kernel⟩⟩
theorem gf_Law_10 {G : zLA} {p : Program} {l : Launch} {e : Env} {R : Room} {s : State} {m : MethodId} {args : Array Value} {below : List Frame} {meth : Method} {c : Code} {cells slots : Nat} {Q : State → Prop} {cc : ByteArray} {nL : Nat} {ret : Option FieldType} {pc : Nat} {lv : List (Nat × Value)} {st : List Value} {σ : zSt} (C : zCx G p s m args meth c "VillageWavesLaw" cc nL ret) {g o : Nat} {fs : List Value} {v : Value} (hlive : (g, o) ∈ zL G) (he : zct G σ g o = .inr (9, fs)) (hv : fs[0]? = some v) (d : decode cc pc = .ok (.getfield 10, 3)) (kk : zWV G p l e R s m args below meth c nL cells slots Q (pc + 3) lv (v :: st) σ) : zWV G p l e R s m args below meth c nL cells slots Q pc lv (.ref (zad G g o) :: st) σ :=
  z_get C zin_9 rfl 0 (by decide) zq378 rfl hlive he hv d kk
theorem kl_Law_156 : zLV "VillageWavesLaw" 156 "VillageWaves" y_Waves_wishes b_Waves_wishes 1 (some .int) 0 := ⟨zq750, zq751, zq752, zq28, zq753, rfl, ⟨by decide, by decide, by decide +kernel⟩⟩
theorem kl_Law_160 : zLV "VillageWavesLaw" 160 "VillageWaves" y_Waves_next b_Waves_next 2 (some .int) 0 := ⟨zq821, zq822, zq823, zq28, zq824, rfl, ⟨by decide, by decide, by decide +kernel⟩⟩
theorem kl_Law_167 : zLS "VillageWavesLaw" 167 y_Integer_bitCount b_Integer_bitCount 1 (some .int) 1 := ⟨zq745, zq627, zq45, zq628, ⟨by decide, by decide, by decide +kernel⟩⟩
theorem kl_Law_202 : zLV "VillageWavesLaw" 202 "VillageWavesLaw" y_Law_builds b_Law_builds 3 (some .boolean) 0 := ⟨zq392, zq394, zq1, zq27, zq395, rfl, ⟨by decide, by decide, by decide +kernel⟩⟩
theorem kl_Law_214 : zLV "VillageWavesLaw" 214 "VillageWavesLaw" y_Law_sourcesAreSo b_Law_sourcesAreSo 14 (some .boolean) 0 := ⟨zq945, zq947, zq20, zq27, zq948, rfl, ⟨by decide, by decide, by decide +kernel⟩⟩
theorem kl_Law_217 : zLV "VillageWavesLaw" 217 "VillageWavesLaw" y_Law_queuesAreSo b_Law_queuesAreSo 11 (some .boolean) 0 := ⟨zq957, zq959, zq21, zq27, zq960, rfl, ⟨by decide, by decide, by decide +kernel⟩⟩
theorem kl_Law_220 : zLV "VillageWavesLaw" 220 "VillageWavesLaw" y_Law_foretells b_Law_foretells 12 (some .boolean) 0 := ⟨zq985, zq987, zq24, zq27, zq988, rfl, ⟨by decide, by decide, by decide +kernel⟩⟩
theorem kl_Law_206 : zLV "VillageWavesLaw" 206 "VillageWavesLaw" y_Law_says b_Law_says 8 (some .boolean) 0 := ⟨zq582, zq584, zq7, zq27, zq585, rfl, ⟨by decide, by decide, by decide +kernel⟩⟩
theorem kl_Law_209 : zLV "VillageWavesLaw" 209 "VillageWavesLaw" y_Law_minute b_Law_minute 19 (some .boolean) 0 := ⟨zq746, zq748, zq10, zq27, zq749, rfl, ⟨by decide, by decide, by decide +kernel⟩⟩
theorem kl_Law_223 : zLV "VillageWavesLaw" 223 "VillageWavesLaw" y_Law_tries b_Law_tries 8 (some .boolean) 0 := ⟨zq1024, zq1026, zq26, zq27, zq1027, rfl, ⟨by decide, by decide, by decide +kernel⟩⟩
