abbrev rm_Integer_bitCount : Room := { frames := 0, cells := 0, slots := 0, locals := 0 }
theorem d_Integer_bitCount_0 : decode b_Integer_bitCount 0 = .ok (.iload_n 0, 1) := by decide +kernel
theorem d_Integer_bitCount_1 : decode b_Integer_bitCount 1 = .ok (.iload_n 0, 1) := by decide +kernel
theorem d_Integer_bitCount_2 : decode b_Integer_bitCount 2 = .ok (.iconst 1, 1) := by decide +kernel
theorem d_Integer_bitCount_3 : decode b_Integer_bitCount 3 = .ok (.iushr, 1) := by decide +kernel
theorem d_Integer_bitCount_4 : decode b_Integer_bitCount 4 = .ok (.ldc_w 265, 3) := by decide +kernel
theorem d_Integer_bitCount_7 : decode b_Integer_bitCount 7 = .ok (.iand, 1) := by decide +kernel
theorem d_Integer_bitCount_8 : decode b_Integer_bitCount 8 = .ok (.isub, 1) := by decide +kernel
theorem d_Integer_bitCount_9 : decode b_Integer_bitCount 9 = .ok (.istore_n 0, 1) := by decide +kernel
theorem d_Integer_bitCount_10 : decode b_Integer_bitCount 10 = .ok (.iload_n 0, 1) := by decide +kernel
theorem d_Integer_bitCount_11 : decode b_Integer_bitCount 11 = .ok (.ldc_w 266, 3) := by decide +kernel
theorem d_Integer_bitCount_14 : decode b_Integer_bitCount 14 = .ok (.iand, 1) := by decide +kernel
theorem d_Integer_bitCount_15 : decode b_Integer_bitCount 15 = .ok (.iload_n 0, 1) := by decide +kernel
theorem d_Integer_bitCount_16 : decode b_Integer_bitCount 16 = .ok (.iconst 2, 1) := by decide +kernel
theorem d_Integer_bitCount_17 : decode b_Integer_bitCount 17 = .ok (.iushr, 1) := by decide +kernel
theorem d_Integer_bitCount_18 : decode b_Integer_bitCount 18 = .ok (.ldc_w 266, 3) := by decide +kernel
theorem d_Integer_bitCount_21 : decode b_Integer_bitCount 21 = .ok (.iand, 1) := by decide +kernel
theorem d_Integer_bitCount_22 : decode b_Integer_bitCount 22 = .ok (.iadd, 1) := by decide +kernel
theorem d_Integer_bitCount_23 : decode b_Integer_bitCount 23 = .ok (.istore_n 0, 1) := by decide +kernel
theorem d_Integer_bitCount_24 : decode b_Integer_bitCount 24 = .ok (.iload_n 0, 1) := by decide +kernel
theorem d_Integer_bitCount_25 : decode b_Integer_bitCount 25 = .ok (.iload_n 0, 1) := by decide +kernel
theorem d_Integer_bitCount_26 : decode b_Integer_bitCount 26 = .ok (.iconst 4, 1) := by decide +kernel
theorem d_Integer_bitCount_27 : decode b_Integer_bitCount 27 = .ok (.iushr, 1) := by decide +kernel
theorem d_Integer_bitCount_28 : decode b_Integer_bitCount 28 = .ok (.iadd, 1) := by decide +kernel
theorem d_Integer_bitCount_29 : decode b_Integer_bitCount 29 = .ok (.ldc_w 267, 3) := by decide +kernel
theorem d_Integer_bitCount_32 : decode b_Integer_bitCount 32 = .ok (.iand, 1) := by decide +kernel
theorem d_Integer_bitCount_33 : decode b_Integer_bitCount 33 = .ok (.istore_n 0, 1) := by decide +kernel
theorem d_Integer_bitCount_34 : decode b_Integer_bitCount 34 = .ok (.iload_n 0, 1) := by decide +kernel
theorem d_Integer_bitCount_35 : decode b_Integer_bitCount 35 = .ok (.iload_n 0, 1) := by decide +kernel
theorem d_Integer_bitCount_36 : decode b_Integer_bitCount 36 = .ok (.bipush 8, 2) := by decide +kernel
theorem d_Integer_bitCount_38 : decode b_Integer_bitCount 38 = .ok (.iushr, 1) := by decide +kernel
theorem d_Integer_bitCount_39 : decode b_Integer_bitCount 39 = .ok (.iadd, 1) := by decide +kernel
theorem d_Integer_bitCount_40 : decode b_Integer_bitCount 40 = .ok (.istore_n 0, 1) := by decide +kernel
theorem d_Integer_bitCount_41 : decode b_Integer_bitCount 41 = .ok (.iload_n 0, 1) := by decide +kernel
theorem d_Integer_bitCount_42 : decode b_Integer_bitCount 42 = .ok (.iload_n 0, 1) := by decide +kernel
theorem d_Integer_bitCount_43 : decode b_Integer_bitCount 43 = .ok (.bipush 16, 2) := by decide +kernel
theorem d_Integer_bitCount_45 : decode b_Integer_bitCount 45 = .ok (.iushr, 1) := by decide +kernel
theorem d_Integer_bitCount_46 : decode b_Integer_bitCount 46 = .ok (.iadd, 1) := by decide +kernel
theorem d_Integer_bitCount_47 : decode b_Integer_bitCount 47 = .ok (.istore_n 0, 1) := by decide +kernel
theorem d_Integer_bitCount_48 : decode b_Integer_bitCount 48 = .ok (.iload_n 0, 1) := by decide +kernel
theorem d_Integer_bitCount_49 : decode b_Integer_bitCount 49 = .ok (.bipush 63, 2) := by decide +kernel
theorem d_Integer_bitCount_51 : decode b_Integer_bitCount 51 = .ok (.iand, 1) := by decide +kernel
theorem d_Integer_bitCount_52 : decode b_Integer_bitCount 52 = .ok (.ireturn, 1) := by decide +kernel
def F_Integer_bitCount (a0 : Int32) : Option (Int32) :=
  some ((((((((a0 - ((a0.toUInt32 >>> ((1 : Int32).toUInt32 &&& Int32.toUInt32 31)).toInt32 &&& (1431655765 : Int32))) &&& (858993459 : Int32)) + (((a0 - ((a0.toUInt32 >>> ((1 : Int32).toUInt32 &&& Int32.toUInt32 31)).toInt32 &&& (1431655765 : Int32))).toUInt32 >>> ((2 : Int32).toUInt32 &&& Int32.toUInt32 31)).toInt32 &&& (858993459 : Int32))) + ((((a0 - ((a0.toUInt32 >>> ((1 : Int32).toUInt32 &&& Int32.toUInt32 31)).toInt32 &&& (1431655765 : Int32))) &&& (858993459 : Int32)) + (((a0 - ((a0.toUInt32 >>> ((1 : Int32).toUInt32 &&& Int32.toUInt32 31)).toInt32 &&& (1431655765 : Int32))).toUInt32 >>> ((2 : Int32).toUInt32 &&& Int32.toUInt32 31)).toInt32 &&& (858993459 : Int32))).toUInt32 >>> ((4 : Int32).toUInt32 &&& Int32.toUInt32 31)).toInt32) &&& (252645135 : Int32)) + ((((((a0 - ((a0.toUInt32 >>> ((1 : Int32).toUInt32 &&& Int32.toUInt32 31)).toInt32 &&& (1431655765 : Int32))) &&& (858993459 : Int32)) + (((a0 - ((a0.toUInt32 >>> ((1 : Int32).toUInt32 &&& Int32.toUInt32 31)).toInt32 &&& (1431655765 : Int32))).toUInt32 >>> ((2 : Int32).toUInt32 &&& Int32.toUInt32 31)).toInt32 &&& (858993459 : Int32))) + ((((a0 - ((a0.toUInt32 >>> ((1 : Int32).toUInt32 &&& Int32.toUInt32 31)).toInt32 &&& (1431655765 : Int32))) &&& (858993459 : Int32)) + (((a0 - ((a0.toUInt32 >>> ((1 : Int32).toUInt32 &&& Int32.toUInt32 31)).toInt32 &&& (1431655765 : Int32))).toUInt32 >>> ((2 : Int32).toUInt32 &&& Int32.toUInt32 31)).toInt32 &&& (858993459 : Int32))).toUInt32 >>> ((4 : Int32).toUInt32 &&& Int32.toUInt32 31)).toInt32) &&& (252645135 : Int32)).toUInt32 >>> ((8 : Int32).toUInt32 &&& Int32.toUInt32 31)).toInt32) + (((((((a0 - ((a0.toUInt32 >>> ((1 : Int32).toUInt32 &&& Int32.toUInt32 31)).toInt32 &&& (1431655765 : Int32))) &&& (858993459 : Int32)) + (((a0 - ((a0.toUInt32 >>> ((1 : Int32).toUInt32 &&& Int32.toUInt32 31)).toInt32 &&& (1431655765 : Int32))).toUInt32 >>> ((2 : Int32).toUInt32 &&& Int32.toUInt32 31)).toInt32 &&& (858993459 : Int32))) + ((((a0 - ((a0.toUInt32 >>> ((1 : Int32).toUInt32 &&& Int32.toUInt32 31)).toInt32 &&& (1431655765 : Int32))) &&& (858993459 : Int32)) + (((a0 - ((a0.toUInt32 >>> ((1 : Int32).toUInt32 &&& Int32.toUInt32 31)).toInt32 &&& (1431655765 : Int32))).toUInt32 >>> ((2 : Int32).toUInt32 &&& Int32.toUInt32 31)).toInt32 &&& (858993459 : Int32))).toUInt32 >>> ((4 : Int32).toUInt32 &&& Int32.toUInt32 31)).toInt32) &&& (252645135 : Int32)) + ((((((a0 - ((a0.toUInt32 >>> ((1 : Int32).toUInt32 &&& Int32.toUInt32 31)).toInt32 &&& (1431655765 : Int32))) &&& (858993459 : Int32)) + (((a0 - ((a0.toUInt32 >>> ((1 : Int32).toUInt32 &&& Int32.toUInt32 31)).toInt32 &&& (1431655765 : Int32))).toUInt32 >>> ((2 : Int32).toUInt32 &&& Int32.toUInt32 31)).toInt32 &&& (858993459 : Int32))) + ((((a0 - ((a0.toUInt32 >>> ((1 : Int32).toUInt32 &&& Int32.toUInt32 31)).toInt32 &&& (1431655765 : Int32))) &&& (858993459 : Int32)) + (((a0 - ((a0.toUInt32 >>> ((1 : Int32).toUInt32 &&& Int32.toUInt32 31)).toInt32 &&& (1431655765 : Int32))).toUInt32 >>> ((2 : Int32).toUInt32 &&& Int32.toUInt32 31)).toInt32 &&& (858993459 : Int32))).toUInt32 >>> ((4 : Int32).toUInt32 &&& Int32.toUInt32 31)).toInt32) &&& (252645135 : Int32)).toUInt32 >>> ((8 : Int32).toUInt32 &&& Int32.toUInt32 31)).toInt32).toUInt32 >>> ((16 : Int32).toUInt32 &&& Int32.toUInt32 31)).toInt32) &&& (63 : Int32))
set_option maxHeartbeats 4000000 in
set_option maxRecDepth 100000 in
theorem c_Integer_bitCount {l : Launch} {G : zLA} {a0 : Int32} {σ : zSt} {r : Int32} (hf : F_Integer_bitCount a0 = some r) : zM l G y_Integer_bitCount (zws y_Integer_bitCount b_Integer_bitCount 1 (some .int)) rm_Integer_bitCount [.int a0] σ (some (.int r)) σ := by
  refine z_ofM (own := "java/lang/Integer") (lv := [(0, .int a0)]) (by decide +kernel) rfl rfl (Nat.le_of_ble_eq_true rfl) (fun p e s m args below meth c C => ?_)
  rw [F_Integer_bitCount] at hf
  refine z_iload_n C d_Integer_bitCount_0 0 rfl rfl ?_
  refine z_iload_n C d_Integer_bitCount_1 0 rfl rfl ?_
  refine z_iconst C d_Integer_bitCount_2 zki_1 ?_
  refine z_iushr C d_Integer_bitCount_3 ?_
  refine z_ldcw C d_Integer_bitCount_4 zq629 ?_
  refine z_iand C d_Integer_bitCount_7 ?_
  refine z_isub C d_Integer_bitCount_8 ?_
  refine z_istore_n C d_Integer_bitCount_9 rfl (by decide) ?_
  refine z_iload_n C d_Integer_bitCount_10 0 rfl rfl ?_
  refine z_ldcw C d_Integer_bitCount_11 zq630 ?_
  refine z_iand C d_Integer_bitCount_14 ?_
  refine z_iload_n C d_Integer_bitCount_15 0 rfl rfl ?_
  refine z_iconst C d_Integer_bitCount_16 zki_2 ?_
  refine z_iushr C d_Integer_bitCount_17 ?_
  refine z_ldcw C d_Integer_bitCount_18 zq630 ?_
  refine z_iand C d_Integer_bitCount_21 ?_
  refine z_iadd C d_Integer_bitCount_22 ?_
  refine z_istore_n C d_Integer_bitCount_23 rfl (by decide) ?_
  refine z_iload_n C d_Integer_bitCount_24 0 rfl rfl ?_
  refine z_iload_n C d_Integer_bitCount_25 0 rfl rfl ?_
  refine z_iconst C d_Integer_bitCount_26 zki_4 ?_
  refine z_iushr C d_Integer_bitCount_27 ?_
  refine z_iadd C d_Integer_bitCount_28 ?_
  refine z_ldcw C d_Integer_bitCount_29 zq631 ?_
  refine z_iand C d_Integer_bitCount_32 ?_
  refine z_istore_n C d_Integer_bitCount_33 rfl (by decide) ?_
  refine z_iload_n C d_Integer_bitCount_34 0 rfl rfl ?_
  refine z_iload_n C d_Integer_bitCount_35 0 rfl rfl ?_
  refine z_bipush C d_Integer_bitCount_36 zkb_8 ?_
  refine z_iushr C d_Integer_bitCount_38 ?_
  refine z_iadd C d_Integer_bitCount_39 ?_
  refine z_istore_n C d_Integer_bitCount_40 rfl (by decide) ?_
  refine z_iload_n C d_Integer_bitCount_41 0 rfl rfl ?_
  refine z_iload_n C d_Integer_bitCount_42 0 rfl rfl ?_
  refine z_bipush C d_Integer_bitCount_43 zkb_16 ?_
  refine z_iushr C d_Integer_bitCount_45 ?_
  refine z_iadd C d_Integer_bitCount_46 ?_
  refine z_istore_n C d_Integer_bitCount_47 rfl (by decide) ?_
  refine z_iload_n C d_Integer_bitCount_48 0 rfl rfl ?_
  refine z_bipush C d_Integer_bitCount_49 zkb_63 ?_
  refine z_iand C d_Integer_bitCount_51 ?_
  cases hf
  exact z_iret C rfl (Nat.le_of_ble_eq_true rfl) (Nat.le_of_ble_eq_true rfl) d_Integer_bitCount_52
abbrev rm_Row_get : Room := { frames := 0, cells := 0, slots := 0, locals := 0 }
theorem d_Row_get_0 : decode b_Row_get 0 = .ok (.iload_n 1, 1) := by decide +kernel
theorem d_Row_get_1 : decode b_Row_get 1 = .ok (.ifCond .lt 21, 3) := by decide +kernel
theorem d_Row_get_4 : decode b_Row_get 4 = .ok (.iload_n 1, 1) := by decide +kernel
theorem d_Row_get_5 : decode b_Row_get 5 = .ok (.aload_n 0, 1) := by decide +kernel
theorem d_Row_get_6 : decode b_Row_get 6 = .ok (.getfield 13, 3) := by decide +kernel
theorem d_Row_get_9 : decode b_Row_get 9 = .ok (.arraylength, 1) := by decide +kernel
theorem d_Row_get_10 : decode b_Row_get 10 = .ok (.if_icmp .ge 12, 3) := by decide +kernel
theorem d_Row_get_13 : decode b_Row_get 13 = .ok (.aload_n 0, 1) := by decide +kernel
theorem d_Row_get_14 : decode b_Row_get 14 = .ok (.getfield 13, 3) := by decide +kernel
theorem d_Row_get_17 : decode b_Row_get 17 = .ok (.iload_n 1, 1) := by decide +kernel
theorem d_Row_get_18 : decode b_Row_get 18 = .ok (.iaload, 1) := by decide +kernel
theorem d_Row_get_19 : decode b_Row_get 19 = .ok (.goto 4, 3) := by decide +kernel
theorem d_Row_get_22 : decode b_Row_get 22 = .ok (.iconst 0, 1) := by decide +kernel
theorem d_Row_get_23 : decode b_Row_get 23 = .ok (.ireturn, 1) := by decide +kernel
def F_Row_get (v : Nat) (o : Nat) (a0 : Int32) (σ : zSt) : Option (Int32) :=
  if a0 < 0 then some (0 : Int32) else (if (Int32.ofNat (zrl (o + 1))) ≤ a0 then some (0 : Int32) else (if inb a0 (zrl (o + 1)) = true then some (σ.1 v (o + 1) a0.toNatClampNeg) else none))
set_option maxHeartbeats 4000000 in
set_option maxRecDepth 100000 in
theorem c_Row_get {l : Launch} {G : zLA} {v : Nat} {o : Nat} (ho : zrow G v o) {a0 : Int32} {σ : zSt} {r : Int32} (hf : F_Row_get v o a0 σ = some r) : zM l G y_Row_get (zws y_Row_get b_Row_get 2 (some .int)) rm_Row_get [.ref (zad G v o), .int a0] σ (some (.int r)) σ := by
  refine z_ofM (own := "VillageWaves$Row") (lv := [(0, .ref (zad G v o)), (1, .int a0)]) (by decide +kernel) rfl rfl (Nat.le_of_ble_eq_true rfl) (fun p e s m args below meth c C => ?_)
  rw [F_Row_get] at hf
  refine z_iload_n C d_Row_get_0 1 rfl rfl ?_
  refine z_if_lt (tgt := 22) C d_Row_get_1 rfl (fun h3 => ?_) (fun h3 => ?_)
  · have hf := iff_t hf h3
    refine z_iconst C d_Row_get_22 zki_0 ?_
    cases hf
    exact z_iret C rfl (Nat.le_of_ble_eq_true rfl) (Nat.le_of_ble_eq_true rfl) d_Row_get_23
  · have hf := iff_f hf h3
    refine z_iload_n C d_Row_get_4 1 rfl rfl ?_
    refine z_aload_n C d_Row_get_5 0 rfl rfl ?_
    refine gf_Row_13 C ho.1 (ho.2.2.1 _ _ _ _) rfl d_Row_get_6 ?_
    refine z_alen C ho.2.1 (ho.2.2.2 G _ _ _) d_Row_get_9 ?_
    refine z_icmp_ge (tgt := 22) C d_Row_get_10 rfl (fun h2 => ?_) (fun h2 => ?_)
    · have hf := iff_t hf h2
      refine z_iconst C d_Row_get_22 zki_0 ?_
      cases hf
      exact z_iret C rfl (Nat.le_of_ble_eq_true rfl) (Nat.le_of_ble_eq_true rfl) d_Row_get_23
    · have hf := iff_f hf h2
      refine z_aload_n C d_Row_get_13 0 rfl rfl ?_
      refine gf_Row_13 C ho.1 (ho.2.2.1 _ _ _ _) rfl d_Row_get_14 ?_
      refine z_iload_n C d_Row_get_17 1 rfl rfl ?_
      obtain ⟨h1, hf⟩ := iff_g hf
      refine z_iald C ho.2.1 (ho.2.2.2 G _ _ _) (inb_in h1) rfl d_Row_get_18 ?_
      refine z_goto (tgt := 23) C d_Row_get_19 rfl ?_
      cases hf
      exact z_iret C rfl (Nat.le_of_ble_eq_true rfl) (Nat.le_of_ble_eq_true rfl) d_Row_get_23
abbrev rm_Row_put : Room := { frames := 0, cells := 0, slots := 0, locals := 0 }
theorem d_Row_put_0 : decode b_Row_put 0 = .ok (.iload_n 1, 1) := by decide +kernel
theorem d_Row_put_1 : decode b_Row_put 1 = .ok (.ifCond .lt 19, 3) := by decide +kernel
theorem d_Row_put_4 : decode b_Row_put 4 = .ok (.iload_n 1, 1) := by decide +kernel
theorem d_Row_put_5 : decode b_Row_put 5 = .ok (.aload_n 0, 1) := by decide +kernel
theorem d_Row_put_6 : decode b_Row_put 6 = .ok (.getfield 13, 3) := by decide +kernel
theorem d_Row_put_9 : decode b_Row_put 9 = .ok (.arraylength, 1) := by decide +kernel
theorem d_Row_put_10 : decode b_Row_put 10 = .ok (.if_icmp .ge 10, 3) := by decide +kernel
theorem d_Row_put_13 : decode b_Row_put 13 = .ok (.aload_n 0, 1) := by decide +kernel
theorem d_Row_put_14 : decode b_Row_put 14 = .ok (.getfield 13, 3) := by decide +kernel
theorem d_Row_put_17 : decode b_Row_put 17 = .ok (.iload_n 1, 1) := by decide +kernel
theorem d_Row_put_18 : decode b_Row_put 18 = .ok (.iload_n 2, 1) := by decide +kernel
theorem d_Row_put_19 : decode b_Row_put 19 = .ok (.iastore, 1) := by decide +kernel
theorem d_Row_put_20 : decode b_Row_put 20 = .ok (.return_, 1) := by decide +kernel
def F_Row_put (v : Nat) (o : Nat) (a0 : Int32) (a1 : Int32) (σ : zSt) : Option (zSt) :=
  if a0 < 0 then some σ else (if (Int32.ofNat (zrl (o + 1))) ≤ a0 then some σ else (if inb a0 (zrl (o + 1)) = true then some (zst σ v (o + 1) a0.toNatClampNeg a1) else none))
set_option maxHeartbeats 4000000 in
set_option maxRecDepth 100000 in
theorem c_Row_put {l : Launch} {G : zLA} {v : Nat} {o : Nat} (ho : zrow G v o) {a0 : Int32} {a1 : Int32} {σ : zSt} {σ' : zSt} (hf : F_Row_put v o a0 a1 σ = some σ') : zM l G y_Row_put (zws y_Row_put b_Row_put 3 none) rm_Row_put [.ref (zad G v o), .int a0, .int a1] σ none σ' := by
  refine z_ofM (own := "VillageWaves$Row") (lv := [(0, .ref (zad G v o)), (1, .int a0), (2, .int a1)]) (by decide +kernel) rfl rfl (Nat.le_of_ble_eq_true rfl) (fun p e s m args below meth c C => ?_)
  rw [F_Row_put] at hf
  refine z_iload_n C d_Row_put_0 1 rfl rfl ?_
  refine z_if_lt (tgt := 20) C d_Row_put_1 rfl (fun h3 => ?_) (fun h3 => ?_)
  · have hf := iff_t hf h3
    cases hf
    exact z_vret C rfl (Nat.le_of_ble_eq_true rfl) (Nat.le_of_ble_eq_true rfl) d_Row_put_20
  · have hf := iff_f hf h3
    refine z_iload_n C d_Row_put_4 1 rfl rfl ?_
    refine z_aload_n C d_Row_put_5 0 rfl rfl ?_
    refine gf_Row_13 C ho.1 (ho.2.2.1 _ _ _ _) rfl d_Row_put_6 ?_
    refine z_alen C ho.2.1 (ho.2.2.2 G _ _ _) d_Row_put_9 ?_
    refine z_icmp_ge (tgt := 20) C d_Row_put_10 rfl (fun h2 => ?_) (fun h2 => ?_)
    · have hf := iff_t hf h2
      cases hf
      exact z_vret C rfl (Nat.le_of_ble_eq_true rfl) (Nat.le_of_ble_eq_true rfl) d_Row_put_20
    · have hf := iff_f hf h2
      refine z_aload_n C d_Row_put_13 0 rfl rfl ?_
      refine gf_Row_13 C ho.1 (ho.2.2.1 _ _ _ _) rfl d_Row_put_14 ?_
      refine z_iload_n C d_Row_put_17 1 rfl rfl ?_
      refine z_iload_n C d_Row_put_18 2 rfl rfl ?_
      obtain ⟨h1, hf⟩ := iff_g hf
      refine z_iast C ho.2.1 (ho.2.2.2 G) (inb_in h1) rfl d_Row_put_19 ?_
      cases hf
      exact z_vret C rfl (Nat.le_of_ble_eq_true rfl) (Nat.le_of_ble_eq_true rfl) d_Row_put_20
abbrev rm_Row_add : Room := { frames := 0, cells := 0, slots := 0, locals := 0 }
theorem d_Row_add_0 : decode b_Row_add 0 = .ok (.iload_n 1, 1) := by decide +kernel
theorem d_Row_add_1 : decode b_Row_add 1 = .ok (.ifCond .lt 22, 3) := by decide +kernel
theorem d_Row_add_4 : decode b_Row_add 4 = .ok (.iload_n 1, 1) := by decide +kernel
theorem d_Row_add_5 : decode b_Row_add 5 = .ok (.aload_n 0, 1) := by decide +kernel
theorem d_Row_add_6 : decode b_Row_add 6 = .ok (.getfield 13, 3) := by decide +kernel
theorem d_Row_add_9 : decode b_Row_add 9 = .ok (.arraylength, 1) := by decide +kernel
theorem d_Row_add_10 : decode b_Row_add 10 = .ok (.if_icmp .ge 13, 3) := by decide +kernel
theorem d_Row_add_13 : decode b_Row_add 13 = .ok (.aload_n 0, 1) := by decide +kernel
theorem d_Row_add_14 : decode b_Row_add 14 = .ok (.getfield 13, 3) := by decide +kernel
theorem d_Row_add_17 : decode b_Row_add 17 = .ok (.iload_n 1, 1) := by decide +kernel
theorem d_Row_add_18 : decode b_Row_add 18 = .ok (.dup2, 1) := by decide +kernel
theorem d_Row_add_19 : decode b_Row_add 19 = .ok (.iaload, 1) := by decide +kernel
theorem d_Row_add_20 : decode b_Row_add 20 = .ok (.iload_n 2, 1) := by decide +kernel
theorem d_Row_add_21 : decode b_Row_add 21 = .ok (.iadd, 1) := by decide +kernel
theorem d_Row_add_22 : decode b_Row_add 22 = .ok (.iastore, 1) := by decide +kernel
theorem d_Row_add_23 : decode b_Row_add 23 = .ok (.return_, 1) := by decide +kernel
def F_Row_add (v : Nat) (o : Nat) (a0 : Int32) (a1 : Int32) (σ : zSt) : Option (zSt) :=
  if a0 < 0 then some σ else (if (Int32.ofNat (zrl (o + 1))) ≤ a0 then some σ else (if inb a0 (zrl (o + 1)) = true then (if inb a0 (zrl (o + 1)) = true then some (zst σ v (o + 1) a0.toNatClampNeg ((σ.1 v (o + 1) a0.toNatClampNeg) + a1)) else none) else none))
set_option maxHeartbeats 4000000 in
set_option maxRecDepth 100000 in
theorem c_Row_add {l : Launch} {G : zLA} {v : Nat} {o : Nat} (ho : zrow G v o) {a0 : Int32} {a1 : Int32} {σ : zSt} {σ' : zSt} (hf : F_Row_add v o a0 a1 σ = some σ') : zM l G y_Row_add (zws y_Row_add b_Row_add 3 none) rm_Row_add [.ref (zad G v o), .int a0, .int a1] σ none σ' := by
  refine z_ofM (own := "VillageWaves$Row") (lv := [(0, .ref (zad G v o)), (1, .int a0), (2, .int a1)]) (by decide +kernel) rfl rfl (Nat.le_of_ble_eq_true rfl) (fun p e s m args below meth c C => ?_)
  rw [F_Row_add] at hf
  refine z_iload_n C d_Row_add_0 1 rfl rfl ?_
  refine z_if_lt (tgt := 23) C d_Row_add_1 rfl (fun h4 => ?_) (fun h4 => ?_)
  · have hf := iff_t hf h4
    cases hf
    exact z_vret C rfl (Nat.le_of_ble_eq_true rfl) (Nat.le_of_ble_eq_true rfl) d_Row_add_23
  · have hf := iff_f hf h4
    refine z_iload_n C d_Row_add_4 1 rfl rfl ?_
    refine z_aload_n C d_Row_add_5 0 rfl rfl ?_
    refine gf_Row_13 C ho.1 (ho.2.2.1 _ _ _ _) rfl d_Row_add_6 ?_
    refine z_alen C ho.2.1 (ho.2.2.2 G _ _ _) d_Row_add_9 ?_
    refine z_icmp_ge (tgt := 23) C d_Row_add_10 rfl (fun h3 => ?_) (fun h3 => ?_)
    · have hf := iff_t hf h3
      cases hf
      exact z_vret C rfl (Nat.le_of_ble_eq_true rfl) (Nat.le_of_ble_eq_true rfl) d_Row_add_23
    · have hf := iff_f hf h3
      refine z_aload_n C d_Row_add_13 0 rfl rfl ?_
      refine gf_Row_13 C ho.1 (ho.2.2.1 _ _ _ _) rfl d_Row_add_14 ?_
      refine z_iload_n C d_Row_add_17 1 rfl rfl ?_
      refine z_dup2 C d_Row_add_18 rfl rfl ?_
      obtain ⟨h2, hf⟩ := iff_g hf
      refine z_iald C ho.2.1 (ho.2.2.2 G _ _ _) (inb_in h2) rfl d_Row_add_19 ?_
      refine z_iload_n C d_Row_add_20 2 rfl rfl ?_
      refine z_iadd C d_Row_add_21 ?_
      obtain ⟨h1, hf⟩ := iff_g hf
      refine z_iast C ho.2.1 (ho.2.2.2 G) (inb_in h1) rfl d_Row_add_22 ?_
      cases hf
      exact z_vret C rfl (Nat.le_of_ble_eq_true rfl) (Nat.le_of_ble_eq_true rfl) d_Row_add_23
abbrev rm_Row_join : Room := { frames := 0, cells := 0, slots := 0, locals := 0 }
theorem d_Row_join_0 : decode b_Row_join 0 = .ok (.iload_n 1, 1) := by decide +kernel
theorem d_Row_join_1 : decode b_Row_join 1 = .ok (.ifCond .lt 24, 3) := by decide +kernel
theorem d_Row_join_4 : decode b_Row_join 4 = .ok (.iload_n 1, 1) := by decide +kernel
theorem d_Row_join_5 : decode b_Row_join 5 = .ok (.aload_n 0, 1) := by decide +kernel
theorem d_Row_join_6 : decode b_Row_join 6 = .ok (.getfield 13, 3) := by decide +kernel
theorem d_Row_join_9 : decode b_Row_join 9 = .ok (.arraylength, 1) := by decide +kernel
theorem d_Row_join_10 : decode b_Row_join 10 = .ok (.if_icmp .ge 15, 3) := by decide +kernel
theorem d_Row_join_13 : decode b_Row_join 13 = .ok (.aload_n 0, 1) := by decide +kernel
theorem d_Row_join_14 : decode b_Row_join 14 = .ok (.getfield 13, 3) := by decide +kernel
theorem d_Row_join_17 : decode b_Row_join 17 = .ok (.iload_n 1, 1) := by decide +kernel
theorem d_Row_join_18 : decode b_Row_join 18 = .ok (.dup2, 1) := by decide +kernel
theorem d_Row_join_19 : decode b_Row_join 19 = .ok (.iaload, 1) := by decide +kernel
theorem d_Row_join_20 : decode b_Row_join 20 = .ok (.iconst 1, 1) := by decide +kernel
theorem d_Row_join_21 : decode b_Row_join 21 = .ok (.iload_n 2, 1) := by decide +kernel
theorem d_Row_join_22 : decode b_Row_join 22 = .ok (.ishl, 1) := by decide +kernel
theorem d_Row_join_23 : decode b_Row_join 23 = .ok (.ior, 1) := by decide +kernel
theorem d_Row_join_24 : decode b_Row_join 24 = .ok (.iastore, 1) := by decide +kernel
theorem d_Row_join_25 : decode b_Row_join 25 = .ok (.return_, 1) := by decide +kernel
def F_Row_join (v : Nat) (o : Nat) (a0 : Int32) (a1 : Int32) (σ : zSt) : Option (zSt) :=
  if a0 < 0 then some σ else (if (Int32.ofNat (zrl (o + 1))) ≤ a0 then some σ else (if inb a0 (zrl (o + 1)) = true then (if inb a0 (zrl (o + 1)) = true then some (zst σ v (o + 1) a0.toNatClampNeg ((σ.1 v (o + 1) a0.toNatClampNeg) ||| ((1 : Int32) <<< (a1 &&& 31)))) else none) else none))
set_option maxHeartbeats 4000000 in
set_option maxRecDepth 100000 in
theorem c_Row_join {l : Launch} {G : zLA} {v : Nat} {o : Nat} (ho : zrow G v o) {a0 : Int32} {a1 : Int32} {σ : zSt} {σ' : zSt} (hf : F_Row_join v o a0 a1 σ = some σ') : zM l G y_Row_join (zws y_Row_join b_Row_join 3 none) rm_Row_join [.ref (zad G v o), .int a0, .int a1] σ none σ' := by
  refine z_ofM (own := "VillageWaves$Row") (lv := [(0, .ref (zad G v o)), (1, .int a0), (2, .int a1)]) (by decide +kernel) rfl rfl (Nat.le_of_ble_eq_true rfl) (fun p e s m args below meth c C => ?_)
  rw [F_Row_join] at hf
  refine z_iload_n C d_Row_join_0 1 rfl rfl ?_
  refine z_if_lt (tgt := 25) C d_Row_join_1 rfl (fun h4 => ?_) (fun h4 => ?_)
  · have hf := iff_t hf h4
    cases hf
    exact z_vret C rfl (Nat.le_of_ble_eq_true rfl) (Nat.le_of_ble_eq_true rfl) d_Row_join_25
  · have hf := iff_f hf h4
    refine z_iload_n C d_Row_join_4 1 rfl rfl ?_
    refine z_aload_n C d_Row_join_5 0 rfl rfl ?_
    refine gf_Row_13 C ho.1 (ho.2.2.1 _ _ _ _) rfl d_Row_join_6 ?_
    refine z_alen C ho.2.1 (ho.2.2.2 G _ _ _) d_Row_join_9 ?_
    refine z_icmp_ge (tgt := 25) C d_Row_join_10 rfl (fun h3 => ?_) (fun h3 => ?_)
    · have hf := iff_t hf h3
      cases hf
      exact z_vret C rfl (Nat.le_of_ble_eq_true rfl) (Nat.le_of_ble_eq_true rfl) d_Row_join_25
    · have hf := iff_f hf h3
      refine z_aload_n C d_Row_join_13 0 rfl rfl ?_
      refine gf_Row_13 C ho.1 (ho.2.2.1 _ _ _ _) rfl d_Row_join_14 ?_
      refine z_iload_n C d_Row_join_17 1 rfl rfl ?_
      refine z_dup2 C d_Row_join_18 rfl rfl ?_
      obtain ⟨h2, hf⟩ := iff_g hf
      refine z_iald C ho.2.1 (ho.2.2.2 G _ _ _) (inb_in h2) rfl d_Row_join_19 ?_
      refine z_iconst C d_Row_join_20 zki_1 ?_
      refine z_iload_n C d_Row_join_21 2 rfl rfl ?_
      refine z_ishl C d_Row_join_22 ?_
      refine z_ior C d_Row_join_23 ?_
      obtain ⟨h1, hf⟩ := iff_g hf
      refine z_iast C ho.2.1 (ho.2.2.2 G) (inb_in h1) rfl d_Row_join_24 ?_
      cases hf
      exact z_vret C rfl (Nat.le_of_ble_eq_true rfl) (Nat.le_of_ble_eq_true rfl) d_Row_join_25
abbrev rm_Row_leave : Room := { frames := 0, cells := 0, slots := 0, locals := 0 }
theorem d_Row_leave_0 : decode b_Row_leave 0 = .ok (.iload_n 1, 1) := by decide +kernel
theorem d_Row_leave_1 : decode b_Row_leave 1 = .ok (.ifCond .lt 26, 3) := by decide +kernel
theorem d_Row_leave_4 : decode b_Row_leave 4 = .ok (.iload_n 1, 1) := by decide +kernel
theorem d_Row_leave_5 : decode b_Row_leave 5 = .ok (.aload_n 0, 1) := by decide +kernel
theorem d_Row_leave_6 : decode b_Row_leave 6 = .ok (.getfield 13, 3) := by decide +kernel
theorem d_Row_leave_9 : decode b_Row_leave 9 = .ok (.arraylength, 1) := by decide +kernel
theorem d_Row_leave_10 : decode b_Row_leave 10 = .ok (.if_icmp .ge 17, 3) := by decide +kernel
theorem d_Row_leave_13 : decode b_Row_leave 13 = .ok (.aload_n 0, 1) := by decide +kernel
theorem d_Row_leave_14 : decode b_Row_leave 14 = .ok (.getfield 13, 3) := by decide +kernel
theorem d_Row_leave_17 : decode b_Row_leave 17 = .ok (.iload_n 1, 1) := by decide +kernel
theorem d_Row_leave_18 : decode b_Row_leave 18 = .ok (.dup2, 1) := by decide +kernel
theorem d_Row_leave_19 : decode b_Row_leave 19 = .ok (.iaload, 1) := by decide +kernel
theorem d_Row_leave_20 : decode b_Row_leave 20 = .ok (.iconst 1, 1) := by decide +kernel
theorem d_Row_leave_21 : decode b_Row_leave 21 = .ok (.iload_n 2, 1) := by decide +kernel
theorem d_Row_leave_22 : decode b_Row_leave 22 = .ok (.ishl, 1) := by decide +kernel
theorem d_Row_leave_23 : decode b_Row_leave 23 = .ok (.iconst (-1), 1) := by decide +kernel
theorem d_Row_leave_24 : decode b_Row_leave 24 = .ok (.ixor, 1) := by decide +kernel
theorem d_Row_leave_25 : decode b_Row_leave 25 = .ok (.iand, 1) := by decide +kernel
theorem d_Row_leave_26 : decode b_Row_leave 26 = .ok (.iastore, 1) := by decide +kernel
theorem d_Row_leave_27 : decode b_Row_leave 27 = .ok (.return_, 1) := by decide +kernel
def F_Row_leave (v : Nat) (o : Nat) (a0 : Int32) (a1 : Int32) (σ : zSt) : Option (zSt) :=
  if a0 < 0 then some σ else (if (Int32.ofNat (zrl (o + 1))) ≤ a0 then some σ else (if inb a0 (zrl (o + 1)) = true then (if inb a0 (zrl (o + 1)) = true then some (zst σ v (o + 1) a0.toNatClampNeg ((σ.1 v (o + 1) a0.toNatClampNeg) &&& (((1 : Int32) <<< (a1 &&& 31)) ^^^ (-1 : Int32)))) else none) else none))
set_option maxHeartbeats 4000000 in
set_option maxRecDepth 100000 in
theorem c_Row_leave {l : Launch} {G : zLA} {v : Nat} {o : Nat} (ho : zrow G v o) {a0 : Int32} {a1 : Int32} {σ : zSt} {σ' : zSt} (hf : F_Row_leave v o a0 a1 σ = some σ') : zM l G y_Row_leave (zws y_Row_leave b_Row_leave 3 none) rm_Row_leave [.ref (zad G v o), .int a0, .int a1] σ none σ' := by
  refine z_ofM (own := "VillageWaves$Row") (lv := [(0, .ref (zad G v o)), (1, .int a0), (2, .int a1)]) (by decide +kernel) rfl rfl (Nat.le_of_ble_eq_true rfl) (fun p e s m args below meth c C => ?_)
  rw [F_Row_leave] at hf
  refine z_iload_n C d_Row_leave_0 1 rfl rfl ?_
  refine z_if_lt (tgt := 27) C d_Row_leave_1 rfl (fun h4 => ?_) (fun h4 => ?_)
  · have hf := iff_t hf h4
    cases hf
    exact z_vret C rfl (Nat.le_of_ble_eq_true rfl) (Nat.le_of_ble_eq_true rfl) d_Row_leave_27
  · have hf := iff_f hf h4
    refine z_iload_n C d_Row_leave_4 1 rfl rfl ?_
    refine z_aload_n C d_Row_leave_5 0 rfl rfl ?_
    refine gf_Row_13 C ho.1 (ho.2.2.1 _ _ _ _) rfl d_Row_leave_6 ?_
    refine z_alen C ho.2.1 (ho.2.2.2 G _ _ _) d_Row_leave_9 ?_
    refine z_icmp_ge (tgt := 27) C d_Row_leave_10 rfl (fun h3 => ?_) (fun h3 => ?_)
    · have hf := iff_t hf h3
      cases hf
      exact z_vret C rfl (Nat.le_of_ble_eq_true rfl) (Nat.le_of_ble_eq_true rfl) d_Row_leave_27
    · have hf := iff_f hf h3
      refine z_aload_n C d_Row_leave_13 0 rfl rfl ?_
      refine gf_Row_13 C ho.1 (ho.2.2.1 _ _ _ _) rfl d_Row_leave_14 ?_
      refine z_iload_n C d_Row_leave_17 1 rfl rfl ?_
      refine z_dup2 C d_Row_leave_18 rfl rfl ?_
      obtain ⟨h2, hf⟩ := iff_g hf
      refine z_iald C ho.2.1 (ho.2.2.2 G _ _ _) (inb_in h2) rfl d_Row_leave_19 ?_
      refine z_iconst C d_Row_leave_20 zki_1 ?_
      refine z_iload_n C d_Row_leave_21 2 rfl rfl ?_
      refine z_ishl C d_Row_leave_22 ?_
      refine z_iconst C d_Row_leave_23 zki_m1 ?_
      refine z_ixor C d_Row_leave_24 ?_
      refine z_iand C d_Row_leave_25 ?_
      obtain ⟨h1, hf⟩ := iff_g hf
      refine z_iast C ho.2.1 (ho.2.2.2 G) (inb_in h1) rfl d_Row_leave_26 ?_
      cases hf
      exact z_vret C rfl (Nat.le_of_ble_eq_true rfl) (Nat.le_of_ble_eq_true rfl) d_Row_leave_27
abbrev rm_Arrays_fill : Room := { frames := 0, cells := 0, slots := 0, locals := 0 }
theorem d_Arrays_fill_0 : decode b_Arrays_fill 0 = .ok (.iconst 0, 1) := by decide +kernel
theorem d_Arrays_fill_1 : decode b_Arrays_fill 1 = .ok (.istore_n 2, 1) := by decide +kernel
theorem d_Arrays_fill_2 : decode b_Arrays_fill 2 = .ok (.aload_n 0, 1) := by decide +kernel
theorem d_Arrays_fill_3 : decode b_Arrays_fill 3 = .ok (.arraylength, 1) := by decide +kernel
theorem d_Arrays_fill_4 : decode b_Arrays_fill 4 = .ok (.istore_n 3, 1) := by decide +kernel
theorem d_Arrays_fill_5 : decode b_Arrays_fill 5 = .ok (.iload_n 2, 1) := by decide +kernel
theorem d_Arrays_fill_6 : decode b_Arrays_fill 6 = .ok (.iload_n 3, 1) := by decide +kernel
theorem d_Arrays_fill_7 : decode b_Arrays_fill 7 = .ok (.if_icmp .ge 13, 3) := by decide +kernel
theorem d_Arrays_fill_10 : decode b_Arrays_fill 10 = .ok (.aload_n 0, 1) := by decide +kernel
theorem d_Arrays_fill_11 : decode b_Arrays_fill 11 = .ok (.iload_n 2, 1) := by decide +kernel
theorem d_Arrays_fill_12 : decode b_Arrays_fill 12 = .ok (.iload_n 1, 1) := by decide +kernel
theorem d_Arrays_fill_13 : decode b_Arrays_fill 13 = .ok (.iastore, 1) := by decide +kernel
theorem d_Arrays_fill_14 : decode b_Arrays_fill 14 = .ok (.iinc 2 1, 3) := by decide +kernel
theorem d_Arrays_fill_17 : decode b_Arrays_fill 17 = .ok (.goto (-12), 3) := by decide +kernel
theorem d_Arrays_fill_20 : decode b_Arrays_fill 20 = .ok (.return_, 1) := by decide +kernel
def L_Arrays_fill (v : Nat) (o : Nat) : Nat → Nat → Int32 → Int32 → Int32 → zSt → Option (zSt)
  | 0, _, _, _, _, _ => none
  | n + 1, 0, x1, x2, x3, σ => if x3 ≤ x2 then some σ else (if inb x2 (zrl o) = true then L_Arrays_fill v o n 0 x1 (x2 + (1 : Int32)) x3 (zst σ v o x2.toNatClampNeg x1) else none)
  | _ + 1, _, _, _, _, _ => none
theorem e_Arrays_fill_0 (v : Nat) (o : Nat) (n : Nat) (x1 : Int32) (x2 : Int32) (x3 : Int32) (σ : zSt) : L_Arrays_fill v o (n + 1) 0 x1 x2 x3 σ = (if x3 ≤ x2 then some σ else (if inb x2 (zrl o) = true then L_Arrays_fill v o n 0 x1 (x2 + (1 : Int32)) x3 (zst σ v o x2.toNatClampNeg x1) else none)) := rfl
set_option maxHeartbeats 4000000 in
set_option maxRecDepth 100000 in
theorem w_Arrays_fill {l : Launch} {G : zLA} {p : Program} {e : Env} {s : State} {m : MethodId} {args : Array Value} {below : List Frame} {meth : Method} {c : Code} (C : zCx G p s m args meth c "java/util/Arrays" b_Arrays_fill 4 none) {v : Nat} {o : Nat} (ho : zarr G v o) {σ' : zSt} : ∀ n : Nat, (∀ (x1 : Int32) (x2 : Int32) (x3 : Int32) (σ : zSt), L_Arrays_fill v o n 0 x1 x2 x3 σ = some σ' → zWV G p l e rm_Arrays_fill s m args below meth c 4 0 0 (zQ G below args s rm_Arrays_fill none σ') 5 [(0, .ref (zad G v o)), (1, .int x1), (2, .int x2), (3, .int x3)] [] σ) := by
  intro n
  induction n with
  | zero => exact fun _ _ _ _ hf => (by cases hf)
  | succ n ih =>
    refine ?_
    · intro x1 x2 x3 σ hf
      rw [e_Arrays_fill_0] at hf
      refine z_iload_n C d_Arrays_fill_5 2 rfl rfl ?_
      refine z_iload_n C d_Arrays_fill_6 3 rfl rfl ?_
      refine z_icmp_ge (tgt := 20) C d_Arrays_fill_7 rfl (fun h2 => ?_) (fun h2 => ?_)
      · have hf := iff_t hf h2
        cases hf
        exact z_vret C rfl (Nat.le_of_ble_eq_true rfl) (Nat.le_of_ble_eq_true rfl) d_Arrays_fill_20
      · have hf := iff_f hf h2
        refine z_aload_n C d_Arrays_fill_10 0 rfl rfl ?_
        refine z_iload_n C d_Arrays_fill_11 2 rfl rfl ?_
        refine z_iload_n C d_Arrays_fill_12 1 rfl rfl ?_
        obtain ⟨h1, hf⟩ := iff_g hf
        refine z_iast C ho.1 (ho.2 G) (inb_in h1) rfl d_Arrays_fill_13 ?_
        refine z_iinc C d_Arrays_fill_14 2 rfl zki_1 (by decide) ?_
        refine z_goto (tgt := 5) C d_Arrays_fill_17 rfl ?_
        exact z_sub [1, 2, 0, 3] rfl (ih _ _ _ _ hf)
def F_Arrays_fill (v : Nat) (o : Nat) (a1 : Int32) (σ : zSt) : Option (zSt) :=
  L_Arrays_fill v o zK 0 a1 (0 : Int32) (Int32.ofNat (zrl o)) σ
set_option maxHeartbeats 4000000 in
set_option maxRecDepth 100000 in
theorem c_Arrays_fill {l : Launch} {G : zLA} {v : Nat} {o : Nat} (ho : zarr G v o) {a1 : Int32} {σ : zSt} {σ' : zSt} (hf : F_Arrays_fill v o a1 σ = some σ') : zM l G y_Arrays_fill (zws y_Arrays_fill b_Arrays_fill 4 none) rm_Arrays_fill [.ref (zad G v o), .int a1] σ none σ' := by
  refine z_ofM (own := "java/util/Arrays") (lv := [(0, .ref (zad G v o)), (1, .int a1)]) (by decide +kernel) rfl rfl (Nat.le_of_ble_eq_true rfl) (fun p e s m args below meth c C => ?_)
  rw [F_Arrays_fill] at hf
  refine z_iconst C d_Arrays_fill_0 zki_0 ?_
  refine z_istore_n C d_Arrays_fill_1 rfl (by decide) ?_
  refine z_aload_n C d_Arrays_fill_2 1 rfl rfl ?_
  refine z_alen C ho.1 (ho.2 G _ _ _) d_Arrays_fill_3 ?_
  refine z_istore_n C d_Arrays_fill_4 rfl (by decide) ?_
  exact z_sub [2, 3, 1, 0] rfl ((w_Arrays_fill C ho zK) _ _ _ _ hf)
abbrev rm_Row_fill : Room := { frames := 1, cells := 0, slots := 0, locals := 23 }
theorem d_Row_fill_0 : decode b_Row_fill 0 = .ok (.aload_n 0, 1) := by decide +kernel
theorem d_Row_fill_1 : decode b_Row_fill 1 = .ok (.getfield 13, 3) := by decide +kernel
theorem d_Row_fill_4 : decode b_Row_fill 4 = .ok (.iload_n 1, 1) := by decide +kernel
theorem d_Row_fill_5 : decode b_Row_fill 5 = .ok (.invokestatic 19, 3) := by decide +kernel
theorem d_Row_fill_8 : decode b_Row_fill 8 = .ok (.return_, 1) := by decide +kernel
def F_Row_fill (v : Nat) (o : Nat) (a0 : Int32) (σ : zSt) : Option (zSt) :=
  (F_Arrays_fill v (o + 1) a0 σ).bind fun σ2 => some σ2
set_option maxHeartbeats 4000000 in
set_option maxRecDepth 100000 in
theorem c_Row_fill {l : Launch} {G : zLA} {v : Nat} {o : Nat} (ho : zrow G v o) {a0 : Int32} {σ : zSt} {σ' : zSt} (hf : F_Row_fill v o a0 σ = some σ') : zM l G y_Row_fill (zws y_Row_fill b_Row_fill 2 none) rm_Row_fill [.ref (zad G v o), .int a0] σ none σ' := by
  refine z_ofM (own := "VillageWaves$Row") (lv := [(0, .ref (zad G v o)), (1, .int a0)]) (by decide +kernel) rfl rfl (Nat.le_of_ble_eq_true rfl) (fun p e s m args below meth c C => ?_)
  rw [F_Row_fill] at hf
  refine z_aload_n C d_Row_fill_0 0 rfl rfl ?_
  refine gf_Row_13 C ho.1 (ho.2.2.1 _ _ _ _) rfl d_Row_fill_1 ?_
  refine z_iload_n C d_Row_fill_4 1 rfl rfl ?_
  obtain ⟨σ2, h1, hf⟩ := bd_s hf
  refine z_cSv C kl_Row_19 (c_Arrays_fill ⟨ho.2.1, ho.2.2.2⟩ h1) rfl rfl (Nat.le_of_ble_eq_true rfl) ⟨(Nat.le_of_ble_eq_true rfl), (Nat.le_of_ble_eq_true rfl)⟩ ⟨(Nat.le_of_ble_eq_true rfl), (Nat.le_of_ble_eq_true rfl)⟩ d_Row_fill_5 ?_
  cases hf
  exact z_vret C rfl (Nat.le_of_ble_eq_true rfl) (Nat.le_of_ble_eq_true rfl) d_Row_fill_8
abbrev rm_Row_copyFrom : Room := { frames := 1, cells := 0, slots := 0, locals := 90 }
theorem d_Row_copyFrom_0 : decode b_Row_copyFrom 0 = .ok (.aload_n 1, 1) := by decide +kernel
theorem d_Row_copyFrom_1 : decode b_Row_copyFrom 1 = .ok (.getfield 13, 3) := by decide +kernel
theorem d_Row_copyFrom_4 : decode b_Row_copyFrom 4 = .ok (.iconst 0, 1) := by decide +kernel
theorem d_Row_copyFrom_5 : decode b_Row_copyFrom 5 = .ok (.aload_n 0, 1) := by decide +kernel
theorem d_Row_copyFrom_6 : decode b_Row_copyFrom 6 = .ok (.getfield 13, 3) := by decide +kernel
theorem d_Row_copyFrom_9 : decode b_Row_copyFrom 9 = .ok (.iconst 0, 1) := by decide +kernel
theorem d_Row_copyFrom_10 : decode b_Row_copyFrom 10 = .ok (.aload_n 0, 1) := by decide +kernel
theorem d_Row_copyFrom_11 : decode b_Row_copyFrom 11 = .ok (.getfield 13, 3) := by decide +kernel
theorem d_Row_copyFrom_14 : decode b_Row_copyFrom 14 = .ok (.arraylength, 1) := by decide +kernel
theorem d_Row_copyFrom_15 : decode b_Row_copyFrom 15 = .ok (.aload_n 1, 1) := by decide +kernel
theorem d_Row_copyFrom_16 : decode b_Row_copyFrom 16 = .ok (.getfield 13, 3) := by decide +kernel
theorem d_Row_copyFrom_19 : decode b_Row_copyFrom 19 = .ok (.arraylength, 1) := by decide +kernel
theorem d_Row_copyFrom_20 : decode b_Row_copyFrom 20 = .ok (.invokestatic 25, 3) := by decide +kernel
theorem d_Row_copyFrom_23 : decode b_Row_copyFrom 23 = .ok (.invokestatic 28, 3) := by decide +kernel
theorem d_Row_copyFrom_26 : decode b_Row_copyFrom 26 = .ok (.return_, 1) := by decide +kernel
def F_Row_copyFrom (v : Nat) (o : Nat) (v2 : Nat) (o2 : Nat) (σ : zSt) : Option (zSt) :=
  if (¬ (if (Int32.ofNat (zrl (o2 + 1))) < (Int32.ofNat (zrl (o + 1))) then (Int32.ofNat (zrl (o2 + 1))) else (Int32.ofNat (zrl (o + 1)))) < 0 ∧ (if (Int32.ofNat (zrl (o2 + 1))) < (Int32.ofNat (zrl (o + 1))) then (Int32.ofNat (zrl (o2 + 1))) else (Int32.ofNat (zrl (o + 1)))).toNatClampNeg ≤ (zrl (o2 + 1)) ∧ (if (Int32.ofNat (zrl (o2 + 1))) < (Int32.ofNat (zrl (o + 1))) then (Int32.ofNat (zrl (o2 + 1))) else (Int32.ofNat (zrl (o + 1)))).toNatClampNeg ≤ (zrl (o + 1))) then some (zcp σ v (o + 1) v2 (o2 + 1) (if (Int32.ofNat (zrl (o2 + 1))) < (Int32.ofNat (zrl (o + 1))) then (Int32.ofNat (zrl (o2 + 1))) else (Int32.ofNat (zrl (o + 1)))).toNatClampNeg) else none
set_option maxHeartbeats 4000000 in
set_option maxRecDepth 100000 in
theorem c_Row_copyFrom {l : Launch} {G : zLA} {v : Nat} {o : Nat} (ho : zrow G v o) {v2 : Nat} {o2 : Nat} (ho2 : zrow G v2 o2) {σ : zSt} {σ' : zSt} (hf : F_Row_copyFrom v o v2 o2 σ = some σ') : zM l G y_Row_copyFrom (zws y_Row_copyFrom b_Row_copyFrom 2 none) rm_Row_copyFrom [.ref (zad G v o), .ref (zad G v2 o2)] σ none σ' := by
  refine z_ofM (own := "VillageWaves$Row") (lv := [(0, .ref (zad G v o)), (1, .ref (zad G v2 o2))]) (by decide +kernel) rfl rfl (Nat.le_of_ble_eq_true rfl) (fun p e s m args below meth c C => ?_)
  rw [F_Row_copyFrom] at hf
  refine z_aload_n C d_Row_copyFrom_0 1 rfl rfl ?_
  refine gf_Row_13 C ho2.1 (ho2.2.2.1 _ _ _ _) rfl d_Row_copyFrom_1 ?_
  refine z_iconst C d_Row_copyFrom_4 zki_0 ?_
  refine z_aload_n C d_Row_copyFrom_5 0 rfl rfl ?_
  refine gf_Row_13 C ho.1 (ho.2.2.1 _ _ _ _) rfl d_Row_copyFrom_6 ?_
  refine z_iconst C d_Row_copyFrom_9 zki_0 ?_
  refine z_aload_n C d_Row_copyFrom_10 0 rfl rfl ?_
  refine gf_Row_13 C ho.1 (ho.2.2.1 _ _ _ _) rfl d_Row_copyFrom_11 ?_
  refine z_alen C ho.2.1 (ho.2.2.2 G _ _ _) d_Row_copyFrom_14 ?_
  refine z_aload_n C d_Row_copyFrom_15 1 rfl rfl ?_
  refine gf_Row_13 C ho2.1 (ho2.2.2.1 _ _ _ _) rfl d_Row_copyFrom_16 ?_
  refine z_alen C ho2.2.1 (ho2.2.2.2 G _ _ _) d_Row_copyFrom_19 ?_
  refine z_mmin C zq766 rfl (Nat.le_of_ble_eq_true rfl) (Nat.le_of_ble_eq_true rfl) (Nat.le_of_ble_eq_true rfl) (Nat.le_of_ble_eq_true rfl) (Nat.le_of_ble_eq_true rfl) d_Row_copyFrom_20 ?_
  obtain ⟨h1, hf⟩ := iff_g hf
  refine z_acopy C zq769 zq771 zq770 zq46 ho2.2.1 (ho2.2.2.2 G) ho.2.1 (ho.2.2.2 G) h1 (Nat.le_of_ble_eq_true rfl) (by decide +kernel) d_Row_copyFrom_23 ?_
  cases hf
  exact z_vret C rfl (Nat.le_of_ble_eq_true rfl) (Nat.le_of_ble_eq_true rfl) d_Row_copyFrom_26
