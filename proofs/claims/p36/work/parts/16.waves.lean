abbrev rm_Waves_checkWithin : Room := { frames := 6, cells := 0, slots := 0, locals := 92 }
theorem d_Waves_checkWithin_0 : decode b_Waves_checkWithin 0 = .ok (.iload_n 0, 1) := by decide +kernel
theorem d_Waves_checkWithin_1 : decode b_Waves_checkWithin 1 = .ok (.iload_n 1, 1) := by decide +kernel
theorem d_Waves_checkWithin_2 : decode b_Waves_checkWithin 2 = .ok (.if_icmp .lt 8, 3) := by decide +kernel
theorem d_Waves_checkWithin_5 : decode b_Waves_checkWithin 5 = .ok (.iload_n 0, 1) := by decide +kernel
theorem d_Waves_checkWithin_6 : decode b_Waves_checkWithin 6 = .ok (.iload_n 2, 1) := by decide +kernel
theorem d_Waves_checkWithin_7 : decode b_Waves_checkWithin 7 = .ok (.if_icmp .le 14, 3) := by decide +kernel
theorem d_Waves_checkWithin_10 : decode b_Waves_checkWithin 10 = .ok (.new 99, 3) := by decide +kernel
theorem d_Waves_checkWithin_13 : decode b_Waves_checkWithin 13 = .ok (.dup, 1) := by decide +kernel
theorem d_Waves_checkWithin_14 : decode b_Waves_checkWithin 14 = .ok (.ldc_w 349, 3) := by decide +kernel
theorem d_Waves_checkWithin_17 : decode b_Waves_checkWithin 17 = .ok (.invokespecial 103, 3) := by decide +kernel
theorem d_Waves_checkWithin_20 : decode b_Waves_checkWithin 20 = .ok (.athrow, 1) := by decide +kernel
theorem d_Waves_checkWithin_21 : decode b_Waves_checkWithin 21 = .ok (.return_, 1) := by decide +kernel
def F_Waves_checkWithin (a0 : Int32) (a1 : Int32) (a2 : Int32) (σ : zSt) : Option (Unit) :=
  if a0 < a1 then none else (if a0 ≤ a2 then some () else none)
set_option maxHeartbeats 4000000 in
set_option maxRecDepth 100000 in
theorem c_Waves_checkWithin {l : Launch} {G : zLA} {a0 : Int32} {a1 : Int32} {a2 : Int32} {σ : zSt} (hf : F_Waves_checkWithin a0 a1 a2 σ = some ()) : zM l G y_Waves_checkWithin (zws y_Waves_checkWithin b_Waves_checkWithin 3 none) rm_Waves_checkWithin [.int a0, .int a1, .int a2] σ none σ := by
  refine z_ofM (own := "VillageWaves") (lv := [(0, .int a0), (1, .int a1), (2, .int a2)]) (by decide +kernel) rfl rfl (Nat.le_of_ble_eq_true rfl) (fun p e s m args below meth c C => ?_)
  rw [F_Waves_checkWithin] at hf
  refine z_iload_n C d_Waves_checkWithin_0 0 rfl rfl ?_
  refine z_iload_n C d_Waves_checkWithin_1 1 rfl rfl ?_
  refine z_icmp_lt (tgt := 10) C d_Waves_checkWithin_2 rfl (fun h2 => ?_) (fun h2 => ?_)
  · have hf := iff_t hf h2
    cases hf
  · have hf := iff_f hf h2
    refine z_iload_n C d_Waves_checkWithin_5 0 rfl rfl ?_
    refine z_iload_n C d_Waves_checkWithin_6 2 rfl rfl ?_
    refine z_icmp_le (tgt := 21) C d_Waves_checkWithin_7 rfl (fun h1 => ?_) (fun h1 => ?_)
    · have hf := iff_t hf h1
      cases hf
      exact z_vret C rfl (Nat.le_of_ble_eq_true rfl) (Nat.le_of_ble_eq_true rfl) d_Waves_checkWithin_21
    · have hf := iff_f hf h1
      cases hf
abbrev rm_Waves_addHouse : Room := { frames := 7, cells := 0, slots := 0, locals := 114 }
theorem d_Waves_addHouse_0 : decode b_Waves_addHouse 0 = .ok (.iload_n 1, 1) := by decide +kernel
theorem d_Waves_addHouse_1 : decode b_Waves_addHouse 1 = .ok (.iconst 0, 1) := by decide +kernel
theorem d_Waves_addHouse_2 : decode b_Waves_addHouse 2 = .ok (.bipush 99, 2) := by decide +kernel
theorem d_Waves_addHouse_4 : decode b_Waves_addHouse 4 = .ok (.invokestatic 56, 3) := by decide +kernel
theorem d_Waves_addHouse_7 : decode b_Waves_addHouse 7 = .ok (.iload_n 2, 1) := by decide +kernel
theorem d_Waves_addHouse_8 : decode b_Waves_addHouse 8 = .ok (.iconst 0, 1) := by decide +kernel
theorem d_Waves_addHouse_9 : decode b_Waves_addHouse 9 = .ok (.bipush 99, 2) := by decide +kernel
theorem d_Waves_addHouse_11 : decode b_Waves_addHouse 11 = .ok (.invokestatic 56, 3) := by decide +kernel
theorem d_Waves_addHouse_14 : decode b_Waves_addHouse 14 = .ok (.iload_n 3, 1) := by decide +kernel
theorem d_Waves_addHouse_15 : decode b_Waves_addHouse 15 = .ok (.iconst 0, 1) := by decide +kernel
theorem d_Waves_addHouse_16 : decode b_Waves_addHouse 16 = .ok (.sipush 150, 3) := by decide +kernel
theorem d_Waves_addHouse_19 : decode b_Waves_addHouse 19 = .ok (.invokestatic 56, 3) := by decide +kernel
theorem d_Waves_addHouse_22 : decode b_Waves_addHouse 22 = .ok (.iload 4, 2) := by decide +kernel
theorem d_Waves_addHouse_24 : decode b_Waves_addHouse 24 = .ok (.iconst 0, 1) := by decide +kernel
theorem d_Waves_addHouse_25 : decode b_Waves_addHouse 25 = .ok (.sipush 999, 3) := by decide +kernel
theorem d_Waves_addHouse_28 : decode b_Waves_addHouse 28 = .ok (.invokestatic 56, 3) := by decide +kernel
theorem d_Waves_addHouse_31 : decode b_Waves_addHouse 31 = .ok (.iload 5, 2) := by decide +kernel
theorem d_Waves_addHouse_33 : decode b_Waves_addHouse 33 = .ok (.iconst 1, 1) := by decide +kernel
theorem d_Waves_addHouse_34 : decode b_Waves_addHouse 34 = .ok (.bipush 9, 2) := by decide +kernel
theorem d_Waves_addHouse_36 : decode b_Waves_addHouse 36 = .ok (.invokestatic 56, 3) := by decide +kernel
theorem d_Waves_addHouse_39 : decode b_Waves_addHouse 39 = .ok (.aload_n 0, 1) := by decide +kernel
theorem d_Waves_addHouse_40 : decode b_Waves_addHouse 40 = .ok (.getfield 10, 3) := by decide +kernel
theorem d_Waves_addHouse_43 : decode b_Waves_addHouse 43 = .ok (.getfield 68, 3) := by decide +kernel
theorem d_Waves_addHouse_46 : decode b_Waves_addHouse 46 = .ok (.invokevirtual 83, 3) := by decide +kernel
theorem d_Waves_addHouse_49 : decode b_Waves_addHouse 49 = .ok (.ifCond .eq 13, 3) := by decide +kernel
theorem d_Waves_addHouse_52 : decode b_Waves_addHouse 52 = .ok (.new 45, 3) := by decide +kernel
theorem d_Waves_addHouse_55 : decode b_Waves_addHouse 55 = .ok (.dup, 1) := by decide +kernel
theorem d_Waves_addHouse_56 : decode b_Waves_addHouse 56 = .ok (.ldc 87, 2) := by decide +kernel
theorem d_Waves_addHouse_58 : decode b_Waves_addHouse 58 = .ok (.invokespecial 49, 3) := by decide +kernel
theorem d_Waves_addHouse_61 : decode b_Waves_addHouse 61 = .ok (.athrow, 1) := by decide +kernel
theorem d_Waves_addHouse_62 : decode b_Waves_addHouse 62 = .ok (.aload_n 0, 1) := by decide +kernel
theorem d_Waves_addHouse_63 : decode b_Waves_addHouse 63 = .ok (.getfield 10, 3) := by decide +kernel
theorem d_Waves_addHouse_66 : decode b_Waves_addHouse 66 = .ok (.getfield 68, 3) := by decide +kernel
theorem d_Waves_addHouse_69 : decode b_Waves_addHouse 69 = .ok (.iload_n 1, 1) := by decide +kernel
theorem d_Waves_addHouse_70 : decode b_Waves_addHouse 70 = .ok (.iload_n 2, 1) := by decide +kernel
theorem d_Waves_addHouse_71 : decode b_Waves_addHouse 71 = .ok (.iload_n 3, 1) := by decide +kernel
theorem d_Waves_addHouse_72 : decode b_Waves_addHouse 72 = .ok (.iload 4, 2) := by decide +kernel
theorem d_Waves_addHouse_74 : decode b_Waves_addHouse 74 = .ok (.iload 5, 2) := by decide +kernel
theorem d_Waves_addHouse_76 : decode b_Waves_addHouse 76 = .ok (.invokevirtual 89, 3) := by decide +kernel
theorem d_Waves_addHouse_79 : decode b_Waves_addHouse 79 = .ok (.ireturn, 1) := by decide +kernel
def F_Waves_addHouse (a0 : Int32) (a1 : Int32) (a2 : Int32) (a3 : Int32) (a4 : Int32) (σ : zSt) : Option (Int32 × zSt) :=
  (F_Waves_checkWithin a0 (0 : Int32) (99 : Int32) σ).bind fun _ => (F_Waves_checkWithin a1 (0 : Int32) (99 : Int32) σ).bind fun _ => (F_Waves_checkWithin a2 (0 : Int32) (150 : Int32) σ).bind fun _ => (F_Waves_checkWithin a3 (0 : Int32) (999 : Int32) σ).bind fun _ => (F_Waves_checkWithin a4 (1 : Int32) (9 : Int32) σ).bind fun _ => (F_Homes_isFull 0 σ).bind fun r7 => if r7 = 0 then (bd2 (F_Homes_add 0 a0 a1 a2 a3 a4 σ) fun r9 σ10 => some (r9, σ10)) else none
set_option maxHeartbeats 4000000 in
set_option maxRecDepth 100000 in
theorem c_Waves_addHouse {l : Launch} {G : zLA} (hx : zxl G) {a0 : Int32} {a1 : Int32} {a2 : Int32} {a3 : Int32} {a4 : Int32} {σ : zSt} {r : Int32} {σ' : zSt} (hf : F_Waves_addHouse a0 a1 a2 a3 a4 σ = some (r, σ')) : zM l G y_Waves_addHouse (zws y_Waves_addHouse b_Waves_addHouse 6 (some .int)) rm_Waves_addHouse [.ref (zad G 4 70), .int a0, .int a1, .int a2, .int a3, .int a4] σ (some (.int r)) σ' := by
  refine z_ofM (own := "VillageWaves") (lv := [(0, .ref (zad G 4 70)), (1, .int a0), (2, .int a1), (3, .int a2), (4, .int a3), (5, .int a4)]) (by decide +kernel) rfl rfl (Nat.le_of_ble_eq_true rfl) (fun p e s m args below meth c C => ?_)
  rw [F_Waves_addHouse] at hf
  refine z_iload_n C d_Waves_addHouse_0 1 rfl rfl ?_
  refine z_iconst C d_Waves_addHouse_1 zki_0 ?_
  refine z_bipush C d_Waves_addHouse_2 zkb_99 ?_
  obtain ⟨_, h1, hf⟩ := bd_s hf
  refine z_cSv C kl_Waves_56 (c_Waves_checkWithin h1) rfl rfl (Nat.le_of_ble_eq_true rfl) ⟨(Nat.le_of_ble_eq_true rfl), (Nat.le_of_ble_eq_true rfl)⟩ ⟨(Nat.le_of_ble_eq_true rfl), (Nat.le_of_ble_eq_true rfl)⟩ d_Waves_addHouse_4 ?_
  refine z_iload_n C d_Waves_addHouse_7 2 rfl rfl ?_
  refine z_iconst C d_Waves_addHouse_8 zki_0 ?_
  refine z_bipush C d_Waves_addHouse_9 zkb_99 ?_
  obtain ⟨_, h2, hf⟩ := bd_s hf
  refine z_cSv C kl_Waves_56 (c_Waves_checkWithin h2) rfl rfl (Nat.le_of_ble_eq_true rfl) ⟨(Nat.le_of_ble_eq_true rfl), (Nat.le_of_ble_eq_true rfl)⟩ ⟨(Nat.le_of_ble_eq_true rfl), (Nat.le_of_ble_eq_true rfl)⟩ d_Waves_addHouse_11 ?_
  refine z_iload_n C d_Waves_addHouse_14 3 rfl rfl ?_
  refine z_iconst C d_Waves_addHouse_15 zki_0 ?_
  refine z_sipush C d_Waves_addHouse_16 zks_150 ?_
  obtain ⟨_, h3, hf⟩ := bd_s hf
  refine z_cSv C kl_Waves_56 (c_Waves_checkWithin h3) rfl rfl (Nat.le_of_ble_eq_true rfl) ⟨(Nat.le_of_ble_eq_true rfl), (Nat.le_of_ble_eq_true rfl)⟩ ⟨(Nat.le_of_ble_eq_true rfl), (Nat.le_of_ble_eq_true rfl)⟩ d_Waves_addHouse_19 ?_
  refine z_iload C d_Waves_addHouse_22 4 rfl ?_
  refine z_iconst C d_Waves_addHouse_24 zki_0 ?_
  refine z_sipush C d_Waves_addHouse_25 zks_999 ?_
  obtain ⟨_, h4, hf⟩ := bd_s hf
  refine z_cSv C kl_Waves_56 (c_Waves_checkWithin h4) rfl rfl (Nat.le_of_ble_eq_true rfl) ⟨(Nat.le_of_ble_eq_true rfl), (Nat.le_of_ble_eq_true rfl)⟩ ⟨(Nat.le_of_ble_eq_true rfl), (Nat.le_of_ble_eq_true rfl)⟩ d_Waves_addHouse_28 ?_
  refine z_iload C d_Waves_addHouse_31 5 rfl ?_
  refine z_iconst C d_Waves_addHouse_33 zki_1 ?_
  refine z_bipush C d_Waves_addHouse_34 zkb_9 ?_
  obtain ⟨_, h5, hf⟩ := bd_s hf
  refine z_cSv C kl_Waves_56 (c_Waves_checkWithin h5) rfl rfl (Nat.le_of_ble_eq_true rfl) ⟨(Nat.le_of_ble_eq_true rfl), (Nat.le_of_ble_eq_true rfl)⟩ ⟨(Nat.le_of_ble_eq_true rfl), (Nat.le_of_ble_eq_true rfl)⟩ d_Waves_addHouse_36 ?_
  refine z_aload_n C d_Waves_addHouse_39 0 rfl rfl ?_
  refine gf_Waves_10 C (zx4 hx 70 rfl) rfl rfl d_Waves_addHouse_40 ?_
  refine gf_Waves_68 C (zlv (zxv hx 0 rfl) 0 rfl) rfl rfl d_Waves_addHouse_43 ?_
  obtain ⟨r7, h6, hf⟩ := bd_s hf
  refine z_cVi C kl_Waves_83 rfl (c_Homes_isFull (zxv hx 0 rfl) h6) (zlv (zxv hx 0 rfl) 3 rfl) rfl rfl rfl (Nat.le_of_ble_eq_true rfl) ⟨(Nat.le_of_ble_eq_true rfl), (Nat.le_of_ble_eq_true rfl)⟩ ⟨(Nat.le_of_ble_eq_true rfl), (Nat.le_of_ble_eq_true rfl)⟩ d_Waves_addHouse_46 ?_
  refine z_if_eq (tgt := 62) C d_Waves_addHouse_49 rfl (fun h11 => ?_) (fun h11 => ?_)
  · have hf := iff_t hf h11
    refine z_aload_n C d_Waves_addHouse_62 0 rfl rfl ?_
    refine gf_Waves_10 C (zx4 hx 70 rfl) rfl rfl d_Waves_addHouse_63 ?_
    refine gf_Waves_68 C (zlv (zxv hx 0 rfl) 0 rfl) rfl rfl d_Waves_addHouse_66 ?_
    refine z_iload_n C d_Waves_addHouse_69 1 rfl rfl ?_
    refine z_iload_n C d_Waves_addHouse_70 2 rfl rfl ?_
    refine z_iload_n C d_Waves_addHouse_71 3 rfl rfl ?_
    refine z_iload C d_Waves_addHouse_72 4 rfl ?_
    refine z_iload C d_Waves_addHouse_74 5 rfl ?_
    obtain ⟨r9, σ10, h8, hf⟩ := bd2_s hf
    refine z_cVi C kl_Waves_89 rfl (c_Homes_add (zxv hx 0 rfl) h8) (zlv (zxv hx 0 rfl) 3 rfl) rfl rfl rfl (Nat.le_of_ble_eq_true rfl) ⟨(Nat.le_of_ble_eq_true rfl), (Nat.le_of_ble_eq_true rfl)⟩ ⟨(Nat.le_of_ble_eq_true rfl), (Nat.le_of_ble_eq_true rfl)⟩ d_Waves_addHouse_76 ?_
    cases hf
    exact z_iret C rfl (Nat.le_of_ble_eq_true rfl) (Nat.le_of_ble_eq_true rfl) d_Waves_addHouse_79
  · have hf := iff_f hf h11
    cases hf
abbrev rm_Waves_checkHouse : Room := { frames := 6, cells := 0, slots := 0, locals := 92 }
theorem d_Waves_checkHouse_0 : decode b_Waves_checkHouse 0 = .ok (.iload_n 1, 1) := by decide +kernel
theorem d_Waves_checkHouse_1 : decode b_Waves_checkHouse 1 = .ok (.ifCond .lt 17, 3) := by decide +kernel
theorem d_Waves_checkHouse_4 : decode b_Waves_checkHouse 4 = .ok (.iload_n 1, 1) := by decide +kernel
theorem d_Waves_checkHouse_5 : decode b_Waves_checkHouse 5 = .ok (.aload_n 0, 1) := by decide +kernel
theorem d_Waves_checkHouse_6 : decode b_Waves_checkHouse 6 = .ok (.getfield 10, 3) := by decide +kernel
theorem d_Waves_checkHouse_9 : decode b_Waves_checkHouse 9 = .ok (.getfield 68, 3) := by decide +kernel
theorem d_Waves_checkHouse_12 : decode b_Waves_checkHouse 12 = .ok (.getfield 72, 3) := by decide +kernel
theorem d_Waves_checkHouse_15 : decode b_Waves_checkHouse 15 = .ok (.if_icmp .lt 14, 3) := by decide +kernel
theorem d_Waves_checkHouse_18 : decode b_Waves_checkHouse 18 = .ok (.new 222, 3) := by decide +kernel
theorem d_Waves_checkHouse_21 : decode b_Waves_checkHouse 21 = .ok (.dup, 1) := by decide +kernel
theorem d_Waves_checkHouse_22 : decode b_Waves_checkHouse 22 = .ok (.ldc_w 345, 3) := by decide +kernel
theorem d_Waves_checkHouse_25 : decode b_Waves_checkHouse 25 = .ok (.invokespecial 226, 3) := by decide +kernel
theorem d_Waves_checkHouse_28 : decode b_Waves_checkHouse 28 = .ok (.athrow, 1) := by decide +kernel
theorem d_Waves_checkHouse_29 : decode b_Waves_checkHouse 29 = .ok (.return_, 1) := by decide +kernel
def F_Waves_checkHouse (a0 : Int32) (σ : zSt) : Option (Unit) :=
  if a0 < 0 then none else (if a0 < (σ.1 0 3 0) then some () else none)
set_option maxHeartbeats 4000000 in
set_option maxRecDepth 100000 in
theorem c_Waves_checkHouse {l : Launch} {G : zLA} (hx : zxl G) {a0 : Int32} {σ : zSt} (hf : F_Waves_checkHouse a0 σ = some ()) : zM l G y_Waves_checkHouse (zws y_Waves_checkHouse b_Waves_checkHouse 2 none) rm_Waves_checkHouse [.ref (zad G 4 70), .int a0] σ none σ := by
  refine z_ofM (own := "VillageWaves") (lv := [(0, .ref (zad G 4 70)), (1, .int a0)]) (by decide +kernel) rfl rfl (Nat.le_of_ble_eq_true rfl) (fun p e s m args below meth c C => ?_)
  rw [F_Waves_checkHouse] at hf
  refine z_iload_n C d_Waves_checkHouse_0 1 rfl rfl ?_
  refine z_if_lt (tgt := 18) C d_Waves_checkHouse_1 rfl (fun h2 => ?_) (fun h2 => ?_)
  · have hf := iff_t hf h2
    cases hf
  · have hf := iff_f hf h2
    refine z_iload_n C d_Waves_checkHouse_4 1 rfl rfl ?_
    refine z_aload_n C d_Waves_checkHouse_5 0 rfl rfl ?_
    refine gf_Waves_10 C (zx4 hx 70 rfl) rfl rfl d_Waves_checkHouse_6 ?_
    refine gf_Waves_68 C (zlv (zxv hx 0 rfl) 0 rfl) rfl rfl d_Waves_checkHouse_9 ?_
    refine gf_Waves_72 C (zlv (zxv hx 0 rfl) 3 rfl) rfl rfl d_Waves_checkHouse_12 ?_
    refine z_icmp_lt (tgt := 29) C d_Waves_checkHouse_15 rfl (fun h1 => ?_) (fun h1 => ?_)
    · have hf := iff_t hf h1
      cases hf
      exact z_vret C rfl (Nat.le_of_ble_eq_true rfl) (Nat.le_of_ble_eq_true rfl) d_Waves_checkHouse_29
    · have hf := iff_f hf h1
      cases hf
abbrev rm_Waves_setQuiet : Room := { frames := 7, cells := 0, slots := 0, locals := 114 }
theorem d_Waves_setQuiet_0 : decode b_Waves_setQuiet 0 = .ok (.aload_n 0, 1) := by decide +kernel
theorem d_Waves_setQuiet_1 : decode b_Waves_setQuiet 1 = .ok (.iload_n 1, 1) := by decide +kernel
theorem d_Waves_setQuiet_2 : decode b_Waves_setQuiet 2 = .ok (.invokevirtual 93, 3) := by decide +kernel
theorem d_Waves_setQuiet_5 : decode b_Waves_setQuiet 5 = .ok (.iload_n 2, 1) := by decide +kernel
theorem d_Waves_setQuiet_6 : decode b_Waves_setQuiet 6 = .ok (.iconst (-1), 1) := by decide +kernel
theorem d_Waves_setQuiet_7 : decode b_Waves_setQuiet 7 = .ok (.aload_n 0, 1) := by decide +kernel
theorem d_Waves_setQuiet_8 : decode b_Waves_setQuiet 8 = .ok (.getfield 10, 3) := by decide +kernel
theorem d_Waves_setQuiet_11 : decode b_Waves_setQuiet 11 = .ok (.getfield 96, 3) := by decide +kernel
theorem d_Waves_setQuiet_14 : decode b_Waves_setQuiet 14 = .ok (.iconst 1, 1) := by decide +kernel
theorem d_Waves_setQuiet_15 : decode b_Waves_setQuiet 15 = .ok (.isub, 1) := by decide +kernel
theorem d_Waves_setQuiet_16 : decode b_Waves_setQuiet 16 = .ok (.invokestatic 56, 3) := by decide +kernel
theorem d_Waves_setQuiet_19 : decode b_Waves_setQuiet 19 = .ok (.iload_n 3, 1) := by decide +kernel
theorem d_Waves_setQuiet_20 : decode b_Waves_setQuiet 20 = .ok (.iconst (-1), 1) := by decide +kernel
theorem d_Waves_setQuiet_21 : decode b_Waves_setQuiet 21 = .ok (.aload_n 0, 1) := by decide +kernel
theorem d_Waves_setQuiet_22 : decode b_Waves_setQuiet 22 = .ok (.getfield 10, 3) := by decide +kernel
theorem d_Waves_setQuiet_25 : decode b_Waves_setQuiet 25 = .ok (.getfield 96, 3) := by decide +kernel
theorem d_Waves_setQuiet_28 : decode b_Waves_setQuiet 28 = .ok (.iconst 1, 1) := by decide +kernel
theorem d_Waves_setQuiet_29 : decode b_Waves_setQuiet 29 = .ok (.isub, 1) := by decide +kernel
theorem d_Waves_setQuiet_30 : decode b_Waves_setQuiet 30 = .ok (.invokestatic 56, 3) := by decide +kernel
theorem d_Waves_setQuiet_33 : decode b_Waves_setQuiet 33 = .ok (.iload_n 2, 1) := by decide +kernel
theorem d_Waves_setQuiet_34 : decode b_Waves_setQuiet 34 = .ok (.iconst (-1), 1) := by decide +kernel
theorem d_Waves_setQuiet_35 : decode b_Waves_setQuiet 35 = .ok (.if_icmp .ne 7, 3) := by decide +kernel
theorem d_Waves_setQuiet_38 : decode b_Waves_setQuiet 38 = .ok (.iconst 1, 1) := by decide +kernel
theorem d_Waves_setQuiet_39 : decode b_Waves_setQuiet 39 = .ok (.goto 4, 3) := by decide +kernel
theorem d_Waves_setQuiet_42 : decode b_Waves_setQuiet 42 = .ok (.iconst 0, 1) := by decide +kernel
theorem d_Waves_setQuiet_43 : decode b_Waves_setQuiet 43 = .ok (.iload_n 3, 1) := by decide +kernel
theorem d_Waves_setQuiet_44 : decode b_Waves_setQuiet 44 = .ok (.iconst (-1), 1) := by decide +kernel
theorem d_Waves_setQuiet_45 : decode b_Waves_setQuiet 45 = .ok (.if_icmp .ne 7, 3) := by decide +kernel
theorem d_Waves_setQuiet_48 : decode b_Waves_setQuiet 48 = .ok (.iconst 1, 1) := by decide +kernel
theorem d_Waves_setQuiet_49 : decode b_Waves_setQuiet 49 = .ok (.goto 4, 3) := by decide +kernel
theorem d_Waves_setQuiet_52 : decode b_Waves_setQuiet 52 = .ok (.iconst 0, 1) := by decide +kernel
theorem d_Waves_setQuiet_53 : decode b_Waves_setQuiet 53 = .ok (.if_icmp .eq 13, 3) := by decide +kernel
theorem d_Waves_setQuiet_56 : decode b_Waves_setQuiet 56 = .ok (.new 99, 3) := by decide +kernel
theorem d_Waves_setQuiet_59 : decode b_Waves_setQuiet 59 = .ok (.dup, 1) := by decide +kernel
theorem d_Waves_setQuiet_60 : decode b_Waves_setQuiet 60 = .ok (.ldc 101, 2) := by decide +kernel
theorem d_Waves_setQuiet_62 : decode b_Waves_setQuiet 62 = .ok (.invokespecial 103, 3) := by decide +kernel
theorem d_Waves_setQuiet_65 : decode b_Waves_setQuiet 65 = .ok (.athrow, 1) := by decide +kernel
theorem d_Waves_setQuiet_66 : decode b_Waves_setQuiet 66 = .ok (.aload_n 0, 1) := by decide +kernel
theorem d_Waves_setQuiet_67 : decode b_Waves_setQuiet 67 = .ok (.getfield 10, 3) := by decide +kernel
theorem d_Waves_setQuiet_70 : decode b_Waves_setQuiet 70 = .ok (.getfield 68, 3) := by decide +kernel
theorem d_Waves_setQuiet_73 : decode b_Waves_setQuiet 73 = .ok (.getfield 104, 3) := by decide +kernel
theorem d_Waves_setQuiet_76 : decode b_Waves_setQuiet 76 = .ok (.iload_n 1, 1) := by decide +kernel
theorem d_Waves_setQuiet_77 : decode b_Waves_setQuiet 77 = .ok (.iload_n 2, 1) := by decide +kernel
theorem d_Waves_setQuiet_78 : decode b_Waves_setQuiet 78 = .ok (.invokevirtual 108, 3) := by decide +kernel
theorem d_Waves_setQuiet_81 : decode b_Waves_setQuiet 81 = .ok (.aload_n 0, 1) := by decide +kernel
theorem d_Waves_setQuiet_82 : decode b_Waves_setQuiet 82 = .ok (.getfield 10, 3) := by decide +kernel
theorem d_Waves_setQuiet_85 : decode b_Waves_setQuiet 85 = .ok (.getfield 68, 3) := by decide +kernel
theorem d_Waves_setQuiet_88 : decode b_Waves_setQuiet 88 = .ok (.getfield 114, 3) := by decide +kernel
theorem d_Waves_setQuiet_91 : decode b_Waves_setQuiet 91 = .ok (.iload_n 1, 1) := by decide +kernel
theorem d_Waves_setQuiet_92 : decode b_Waves_setQuiet 92 = .ok (.iload_n 3, 1) := by decide +kernel
theorem d_Waves_setQuiet_93 : decode b_Waves_setQuiet 93 = .ok (.invokevirtual 108, 3) := by decide +kernel
theorem d_Waves_setQuiet_96 : decode b_Waves_setQuiet 96 = .ok (.return_, 1) := by decide +kernel
def B_Waves_setQuiet_53 (x1 : Int32) (x2 : Int32) (x3 : Int32) (y0 : Int32) (y1 : Int32) (σ : zSt) : Option (zSt) :=
  if y0 = y1 then ((F_Row_put 0 14 x1 x2 σ).bind fun σ8 => (F_Row_put 0 16 x1 x3 σ8).bind fun σ10 => some σ10) else none
set_option maxHeartbeats 4000000 in
set_option maxRecDepth 100000 in
theorem w_Waves_setQuiet_53 {l : Launch} {G : zLA} {p : Program} {e : Env} {s : State} {m : MethodId} {args : Array Value} {below : List Frame} {meth : Method} {c : Code} (C : zCx G p s m args meth c "VillageWaves" b_Waves_setQuiet 4 none) (hx : zxl G) {x1 : Int32} {x2 : Int32} {x3 : Int32} {y0 : Int32} {y1 : Int32} {σ : zSt} {σ' : zSt} (hf : B_Waves_setQuiet_53 x1 x2 x3 y0 y1 σ = some σ') : zWV G p l e rm_Waves_setQuiet s m args below meth c 4 0 0 (zQ G below args s rm_Waves_setQuiet none σ') 53 [(0, .ref (zad G 4 70)), (1, .int x1), (2, .int x2), (3, .int x3)] [.int y1, .int y0] σ := by
  rw [B_Waves_setQuiet_53] at hf
  refine z_icmp_eq (tgt := 66) C d_Waves_setQuiet_53 rfl (fun h11 => ?_) (fun h11 => ?_)
  · have hf := iff_t hf h11
    refine z_aload_n C d_Waves_setQuiet_66 0 rfl rfl ?_
    refine gf_Waves_10 C (zx4 hx 70 rfl) rfl rfl d_Waves_setQuiet_67 ?_
    refine gf_Waves_68 C (zlv (zxv hx 0 rfl) 0 rfl) rfl rfl d_Waves_setQuiet_70 ?_
    refine gf_Waves_104 C (zlv (zxv hx 0 rfl) 3 rfl) rfl rfl d_Waves_setQuiet_73 ?_
    refine z_iload_n C d_Waves_setQuiet_76 1 rfl rfl ?_
    refine z_iload_n C d_Waves_setQuiet_77 2 rfl rfl ?_
    obtain ⟨σ8, h7, hf⟩ := bd_s hf
    refine z_cVv C kl_Waves_108 rfl (c_Row_put (zrow_v (zxv hx 0 rfl) 14 rfl) h7) (zlv (zxv hx 0 rfl) 14 rfl) rfl rfl rfl (Nat.le_of_ble_eq_true rfl) ⟨(Nat.le_of_ble_eq_true rfl), (Nat.le_of_ble_eq_true rfl)⟩ ⟨(Nat.le_of_ble_eq_true rfl), (Nat.le_of_ble_eq_true rfl)⟩ d_Waves_setQuiet_78 ?_
    refine z_aload_n C d_Waves_setQuiet_81 0 rfl rfl ?_
    refine gf_Waves_10 C (zx4 hx 70 rfl) rfl rfl d_Waves_setQuiet_82 ?_
    refine gf_Waves_68 C (zlv (zxv hx 0 rfl) 0 rfl) rfl rfl d_Waves_setQuiet_85 ?_
    refine gf_Waves_114 C (zlv (zxv hx 0 rfl) 3 rfl) rfl rfl d_Waves_setQuiet_88 ?_
    refine z_iload_n C d_Waves_setQuiet_91 1 rfl rfl ?_
    refine z_iload_n C d_Waves_setQuiet_92 3 rfl rfl ?_
    obtain ⟨σ10, h9, hf⟩ := bd_s hf
    refine z_cVv C kl_Waves_108 rfl (c_Row_put (zrow_v (zxv hx 0 rfl) 16 rfl) h9) (zlv (zxv hx 0 rfl) 16 rfl) rfl rfl rfl (Nat.le_of_ble_eq_true rfl) ⟨(Nat.le_of_ble_eq_true rfl), (Nat.le_of_ble_eq_true rfl)⟩ ⟨(Nat.le_of_ble_eq_true rfl), (Nat.le_of_ble_eq_true rfl)⟩ d_Waves_setQuiet_93 ?_
    cases hf
    exact z_vret C rfl (Nat.le_of_ble_eq_true rfl) (Nat.le_of_ble_eq_true rfl) d_Waves_setQuiet_96
  · have hf := iff_f hf h11
    cases hf
def F_Waves_setQuiet (a0 : Int32) (a1 : Int32) (a2 : Int32) (σ : zSt) : Option (zSt) :=
  (F_Waves_checkHouse a0 σ).bind fun _ => (F_Waves_checkWithin a1 (-1 : Int32) ((σ.1 0 0 0) - (1 : Int32)) σ).bind fun _ => (F_Waves_checkWithin a2 (-1 : Int32) ((σ.1 0 0 0) - (1 : Int32)) σ).bind fun _ => if a1 = (-1 : Int32) then (if a2 = (-1 : Int32) then B_Waves_setQuiet_53 a0 a1 a2 (1 : Int32) (1 : Int32) σ else B_Waves_setQuiet_53 a0 a1 a2 (1 : Int32) (0 : Int32) σ) else (if a2 = (-1 : Int32) then B_Waves_setQuiet_53 a0 a1 a2 (0 : Int32) (1 : Int32) σ else B_Waves_setQuiet_53 a0 a1 a2 (0 : Int32) (0 : Int32) σ)
set_option maxHeartbeats 4000000 in
set_option maxRecDepth 100000 in
theorem c_Waves_setQuiet {l : Launch} {G : zLA} (hx : zxl G) {a0 : Int32} {a1 : Int32} {a2 : Int32} {σ : zSt} {σ' : zSt} (hf : F_Waves_setQuiet a0 a1 a2 σ = some σ') : zM l G y_Waves_setQuiet (zws y_Waves_setQuiet b_Waves_setQuiet 4 none) rm_Waves_setQuiet [.ref (zad G 4 70), .int a0, .int a1, .int a2] σ none σ' := by
  refine z_ofM (own := "VillageWaves") (lv := [(0, .ref (zad G 4 70)), (1, .int a0), (2, .int a1), (3, .int a2)]) (by decide +kernel) rfl rfl (Nat.le_of_ble_eq_true rfl) (fun p e s m args below meth c C => ?_)
  rw [F_Waves_setQuiet] at hf
  refine z_aload_n C d_Waves_setQuiet_0 0 rfl rfl ?_
  refine z_iload_n C d_Waves_setQuiet_1 1 rfl rfl ?_
  obtain ⟨_, h1, hf⟩ := bd_s hf
  refine z_cVv C kl_Waves_93 rfl (c_Waves_checkHouse hx h1) (zx4 hx 70 rfl) rfl rfl rfl (Nat.le_of_ble_eq_true rfl) ⟨(Nat.le_of_ble_eq_true rfl), (Nat.le_of_ble_eq_true rfl)⟩ ⟨(Nat.le_of_ble_eq_true rfl), (Nat.le_of_ble_eq_true rfl)⟩ d_Waves_setQuiet_2 ?_
  refine z_iload_n C d_Waves_setQuiet_5 2 rfl rfl ?_
  refine z_iconst C d_Waves_setQuiet_6 zki_m1 ?_
  refine z_aload_n C d_Waves_setQuiet_7 0 rfl rfl ?_
  refine gf_Waves_10 C (zx4 hx 70 rfl) rfl rfl d_Waves_setQuiet_8 ?_
  refine gf_Waves_96 C (zlv (zxv hx 0 rfl) 0 rfl) rfl rfl d_Waves_setQuiet_11 ?_
  refine z_iconst C d_Waves_setQuiet_14 zki_1 ?_
  refine z_isub C d_Waves_setQuiet_15 ?_
  obtain ⟨_, h2, hf⟩ := bd_s hf
  refine z_cSv C kl_Waves_56 (c_Waves_checkWithin h2) rfl rfl (Nat.le_of_ble_eq_true rfl) ⟨(Nat.le_of_ble_eq_true rfl), (Nat.le_of_ble_eq_true rfl)⟩ ⟨(Nat.le_of_ble_eq_true rfl), (Nat.le_of_ble_eq_true rfl)⟩ d_Waves_setQuiet_16 ?_
  refine z_iload_n C d_Waves_setQuiet_19 3 rfl rfl ?_
  refine z_iconst C d_Waves_setQuiet_20 zki_m1 ?_
  refine z_aload_n C d_Waves_setQuiet_21 0 rfl rfl ?_
  refine gf_Waves_10 C (zx4 hx 70 rfl) rfl rfl d_Waves_setQuiet_22 ?_
  refine gf_Waves_96 C (zlv (zxv hx 0 rfl) 0 rfl) rfl rfl d_Waves_setQuiet_25 ?_
  refine z_iconst C d_Waves_setQuiet_28 zki_1 ?_
  refine z_isub C d_Waves_setQuiet_29 ?_
  obtain ⟨_, h3, hf⟩ := bd_s hf
  refine z_cSv C kl_Waves_56 (c_Waves_checkWithin h3) rfl rfl (Nat.le_of_ble_eq_true rfl) ⟨(Nat.le_of_ble_eq_true rfl), (Nat.le_of_ble_eq_true rfl)⟩ ⟨(Nat.le_of_ble_eq_true rfl), (Nat.le_of_ble_eq_true rfl)⟩ d_Waves_setQuiet_30 ?_
  refine z_iload_n C d_Waves_setQuiet_33 2 rfl rfl ?_
  refine z_iconst C d_Waves_setQuiet_34 zki_m1 ?_
  refine z_icmp_ne (tgt := 42) C d_Waves_setQuiet_35 rfl (fun h6 => ?_) (fun h6 => ?_)
  · have hf := iff_f hf h6
    refine z_iconst C d_Waves_setQuiet_42 zki_0 ?_
    refine z_iload_n C d_Waves_setQuiet_43 3 rfl rfl ?_
    refine z_iconst C d_Waves_setQuiet_44 zki_m1 ?_
    refine z_icmp_ne (tgt := 52) C d_Waves_setQuiet_45 rfl (fun h4 => ?_) (fun h4 => ?_)
    · have hf := iff_f hf h4
      refine z_iconst C d_Waves_setQuiet_52 zki_0 ?_
      exact z_sub [0, 1, 2, 3] rfl (w_Waves_setQuiet_53 C hx hf)
    · have hf := iff_t hf h4
      refine z_iconst C d_Waves_setQuiet_48 zki_1 ?_
      refine z_goto (tgt := 53) C d_Waves_setQuiet_49 rfl ?_
      exact z_sub [0, 1, 2, 3] rfl (w_Waves_setQuiet_53 C hx hf)
  · have hf := iff_t hf h6
    refine z_iconst C d_Waves_setQuiet_38 zki_1 ?_
    refine z_goto (tgt := 43) C d_Waves_setQuiet_39 rfl ?_
    refine z_iload_n C d_Waves_setQuiet_43 3 rfl rfl ?_
    refine z_iconst C d_Waves_setQuiet_44 zki_m1 ?_
    refine z_icmp_ne (tgt := 52) C d_Waves_setQuiet_45 rfl (fun h5 => ?_) (fun h5 => ?_)
    · have hf := iff_f hf h5
      refine z_iconst C d_Waves_setQuiet_52 zki_0 ?_
      exact z_sub [0, 1, 2, 3] rfl (w_Waves_setQuiet_53 C hx hf)
    · have hf := iff_t hf h5
      refine z_iconst C d_Waves_setQuiet_48 zki_1 ?_
      refine z_goto (tgt := 53) C d_Waves_setQuiet_49 rfl ?_
      exact z_sub [0, 1, 2, 3] rfl (w_Waves_setQuiet_53 C hx hf)
abbrev rm_Waves_charge : Room := { frames := 7, cells := 0, slots := 0, locals := 114 }
theorem d_Waves_charge_0 : decode b_Waves_charge 0 = .ok (.aload_n 0, 1) := by decide +kernel
theorem d_Waves_charge_1 : decode b_Waves_charge 1 = .ok (.iload_n 1, 1) := by decide +kernel
theorem d_Waves_charge_2 : decode b_Waves_charge 2 = .ok (.invokevirtual 93, 3) := by decide +kernel
theorem d_Waves_charge_5 : decode b_Waves_charge 5 = .ok (.iload_n 2, 1) := by decide +kernel
theorem d_Waves_charge_6 : decode b_Waves_charge 6 = .ok (.sipush (-999), 3) := by decide +kernel
theorem d_Waves_charge_9 : decode b_Waves_charge 9 = .ok (.sipush 999, 3) := by decide +kernel
theorem d_Waves_charge_12 : decode b_Waves_charge 12 = .ok (.invokestatic 56, 3) := by decide +kernel
theorem d_Waves_charge_15 : decode b_Waves_charge 15 = .ok (.aload_n 0, 1) := by decide +kernel
theorem d_Waves_charge_16 : decode b_Waves_charge 16 = .ok (.getfield 10, 3) := by decide +kernel
theorem d_Waves_charge_19 : decode b_Waves_charge 19 = .ok (.getfield 68, 3) := by decide +kernel
theorem d_Waves_charge_22 : decode b_Waves_charge 22 = .ok (.iload_n 1, 1) := by decide +kernel
theorem d_Waves_charge_23 : decode b_Waves_charge 23 = .ok (.iload_n 2, 1) := by decide +kernel
theorem d_Waves_charge_24 : decode b_Waves_charge 24 = .ok (.invokevirtual 117, 3) := by decide +kernel
theorem d_Waves_charge_27 : decode b_Waves_charge 27 = .ok (.aload_n 0, 1) := by decide +kernel
theorem d_Waves_charge_28 : decode b_Waves_charge 28 = .ok (.getfield 10, 3) := by decide +kernel
theorem d_Waves_charge_31 : decode b_Waves_charge 31 = .ok (.getfield 68, 3) := by decide +kernel
theorem d_Waves_charge_34 : decode b_Waves_charge 34 = .ok (.getfield 120, 3) := by decide +kernel
theorem d_Waves_charge_37 : decode b_Waves_charge 37 = .ok (.iload_n 1, 1) := by decide +kernel
theorem d_Waves_charge_38 : decode b_Waves_charge 38 = .ok (.invokevirtual 123, 3) := by decide +kernel
theorem d_Waves_charge_41 : decode b_Waves_charge 41 = .ok (.ireturn, 1) := by decide +kernel
def F_Waves_charge (a0 : Int32) (a1 : Int32) (σ : zSt) : Option (Int32 × zSt) :=
  (F_Waves_checkHouse a0 σ).bind fun _ => (F_Waves_checkWithin a1 (-999 : Int32) (999 : Int32) σ).bind fun _ => (F_Homes_addToBattery 0 a0 a1 σ).bind fun σ4 => (F_Row_get 0 10 a0 σ4).bind fun r6 => some (r6, σ4)
set_option maxHeartbeats 4000000 in
set_option maxRecDepth 100000 in
theorem c_Waves_charge {l : Launch} {G : zLA} (hx : zxl G) {a0 : Int32} {a1 : Int32} {σ : zSt} {r : Int32} {σ' : zSt} (hf : F_Waves_charge a0 a1 σ = some (r, σ')) : zM l G y_Waves_charge (zws y_Waves_charge b_Waves_charge 3 (some .int)) rm_Waves_charge [.ref (zad G 4 70), .int a0, .int a1] σ (some (.int r)) σ' := by
  refine z_ofM (own := "VillageWaves") (lv := [(0, .ref (zad G 4 70)), (1, .int a0), (2, .int a1)]) (by decide +kernel) rfl rfl (Nat.le_of_ble_eq_true rfl) (fun p e s m args below meth c C => ?_)
  rw [F_Waves_charge] at hf
  refine z_aload_n C d_Waves_charge_0 0 rfl rfl ?_
  refine z_iload_n C d_Waves_charge_1 1 rfl rfl ?_
  obtain ⟨_, h1, hf⟩ := bd_s hf
  refine z_cVv C kl_Waves_93 rfl (c_Waves_checkHouse hx h1) (zx4 hx 70 rfl) rfl rfl rfl (Nat.le_of_ble_eq_true rfl) ⟨(Nat.le_of_ble_eq_true rfl), (Nat.le_of_ble_eq_true rfl)⟩ ⟨(Nat.le_of_ble_eq_true rfl), (Nat.le_of_ble_eq_true rfl)⟩ d_Waves_charge_2 ?_
  refine z_iload_n C d_Waves_charge_5 2 rfl rfl ?_
  refine z_sipush C d_Waves_charge_6 zks_m999 ?_
  refine z_sipush C d_Waves_charge_9 zks_999 ?_
  obtain ⟨_, h2, hf⟩ := bd_s hf
  refine z_cSv C kl_Waves_56 (c_Waves_checkWithin h2) rfl rfl (Nat.le_of_ble_eq_true rfl) ⟨(Nat.le_of_ble_eq_true rfl), (Nat.le_of_ble_eq_true rfl)⟩ ⟨(Nat.le_of_ble_eq_true rfl), (Nat.le_of_ble_eq_true rfl)⟩ d_Waves_charge_12 ?_
  refine z_aload_n C d_Waves_charge_15 0 rfl rfl ?_
  refine gf_Waves_10 C (zx4 hx 70 rfl) rfl rfl d_Waves_charge_16 ?_
  refine gf_Waves_68 C (zlv (zxv hx 0 rfl) 0 rfl) rfl rfl d_Waves_charge_19 ?_
  refine z_iload_n C d_Waves_charge_22 1 rfl rfl ?_
  refine z_iload_n C d_Waves_charge_23 2 rfl rfl ?_
  obtain ⟨σ4, h3, hf⟩ := bd_s hf
  refine z_cVv C kl_Waves_117 rfl (c_Homes_addToBattery (zxv hx 0 rfl) h3) (zlv (zxv hx 0 rfl) 3 rfl) rfl rfl rfl (Nat.le_of_ble_eq_true rfl) ⟨(Nat.le_of_ble_eq_true rfl), (Nat.le_of_ble_eq_true rfl)⟩ ⟨(Nat.le_of_ble_eq_true rfl), (Nat.le_of_ble_eq_true rfl)⟩ d_Waves_charge_24 ?_
  refine z_aload_n C d_Waves_charge_27 0 rfl rfl ?_
  refine gf_Waves_10 C (zx4 hx 70 rfl) rfl rfl d_Waves_charge_28 ?_
  refine gf_Waves_68 C (zlv (zxv hx 0 rfl) 0 rfl) rfl rfl d_Waves_charge_31 ?_
  refine gf_Waves_120 C (zlv (zxv hx 0 rfl) 3 rfl) rfl rfl d_Waves_charge_34 ?_
  refine z_iload_n C d_Waves_charge_37 1 rfl rfl ?_
  obtain ⟨r6, h5, hf⟩ := bd_s hf
  refine z_cVi C kl_Waves_123 rfl (c_Row_get (zrow_v (zxv hx 0 rfl) 10 rfl) h5) (zlv (zxv hx 0 rfl) 10 rfl) rfl rfl rfl (Nat.le_of_ble_eq_true rfl) ⟨(Nat.le_of_ble_eq_true rfl), (Nat.le_of_ble_eq_true rfl)⟩ ⟨(Nat.le_of_ble_eq_true rfl), (Nat.le_of_ble_eq_true rfl)⟩ d_Waves_charge_38 ?_
  cases hf
  exact z_iret C rfl (Nat.le_of_ble_eq_true rfl) (Nat.le_of_ble_eq_true rfl) d_Waves_charge_41
abbrev rm_Waves_set : Room := { frames := 7, cells := 0, slots := 0, locals := 114 }
theorem d_Waves_set_0 : decode b_Waves_set 0 = .ok (.iload_n 1, 1) := by decide +kernel
theorem d_Waves_set_1 : decode b_Waves_set 1 = .ok (.iconst 0, 1) := by decide +kernel
theorem d_Waves_set_2 : decode b_Waves_set 2 = .ok (.iconst 4, 1) := by decide +kernel
theorem d_Waves_set_3 : decode b_Waves_set 3 = .ok (.invokestatic 56, 3) := by decide +kernel
theorem d_Waves_set_6 : decode b_Waves_set 6 = .ok (.iload_n 2, 1) := by decide +kernel
theorem d_Waves_set_7 : decode b_Waves_set 7 = .ok (.getstatic 127, 3) := by decide +kernel
theorem d_Waves_set_10 : decode b_Waves_set 10 = .ok (.iload_n 1, 1) := by decide +kernel
theorem d_Waves_set_11 : decode b_Waves_set 11 = .ok (.invokestatic 131, 3) := by decide +kernel
theorem d_Waves_set_14 : decode b_Waves_set 14 = .ok (.getstatic 135, 3) := by decide +kernel
theorem d_Waves_set_17 : decode b_Waves_set 17 = .ok (.iload_n 1, 1) := by decide +kernel
theorem d_Waves_set_18 : decode b_Waves_set 18 = .ok (.invokestatic 131, 3) := by decide +kernel
theorem d_Waves_set_21 : decode b_Waves_set 21 = .ok (.invokestatic 56, 3) := by decide +kernel
theorem d_Waves_set_24 : decode b_Waves_set 24 = .ok (.aload_n 0, 1) := by decide +kernel
theorem d_Waves_set_25 : decode b_Waves_set 25 = .ok (.getfield 10, 3) := by decide +kernel
theorem d_Waves_set_28 : decode b_Waves_set 28 = .ok (.getfield 138, 3) := by decide +kernel
theorem d_Waves_set_31 : decode b_Waves_set 31 = .ok (.iload_n 1, 1) := by decide +kernel
theorem d_Waves_set_32 : decode b_Waves_set 32 = .ok (.invokevirtual 123, 3) := by decide +kernel
theorem d_Waves_set_35 : decode b_Waves_set 35 = .ok (.istore_n 3, 1) := by decide +kernel
theorem d_Waves_set_36 : decode b_Waves_set 36 = .ok (.aload_n 0, 1) := by decide +kernel
theorem d_Waves_set_37 : decode b_Waves_set 37 = .ok (.getfield 10, 3) := by decide +kernel
theorem d_Waves_set_40 : decode b_Waves_set 40 = .ok (.getfield 138, 3) := by decide +kernel
theorem d_Waves_set_43 : decode b_Waves_set 43 = .ok (.iload_n 1, 1) := by decide +kernel
theorem d_Waves_set_44 : decode b_Waves_set 44 = .ok (.iload_n 2, 1) := by decide +kernel
theorem d_Waves_set_45 : decode b_Waves_set 45 = .ok (.invokevirtual 108, 3) := by decide +kernel
theorem d_Waves_set_48 : decode b_Waves_set 48 = .ok (.iload_n 3, 1) := by decide +kernel
theorem d_Waves_set_49 : decode b_Waves_set 49 = .ok (.ireturn, 1) := by decide +kernel
def F_Waves_set (a0 : Int32) (a1 : Int32) (σ : zSt) : Option (Int32 × zSt) :=
  (F_Waves_checkWithin a0 (0 : Int32) (4 : Int32) σ).bind fun _ => (F_Waves_element 1 a0 σ).bind fun r3 => (F_Waves_element 2 a0 σ).bind fun r5 => (F_Waves_checkWithin a1 r3 r5 σ).bind fun _ => (F_Row_get 0 1 a0 σ).bind fun r8 => (F_Row_put 0 1 a0 a1 σ).bind fun σ10 => some (r8, σ10)
set_option maxHeartbeats 4000000 in
set_option maxRecDepth 100000 in
theorem c_Waves_set {l : Launch} {G : zLA} (hx : zxl G) {a0 : Int32} {a1 : Int32} {σ : zSt} {r : Int32} {σ' : zSt} (hf : F_Waves_set a0 a1 σ = some (r, σ')) : zM l G y_Waves_set (zws y_Waves_set b_Waves_set 4 (some .int)) rm_Waves_set [.ref (zad G 4 70), .int a0, .int a1] σ (some (.int r)) σ' := by
  refine z_ofM (own := "VillageWaves") (lv := [(0, .ref (zad G 4 70)), (1, .int a0), (2, .int a1)]) (by decide +kernel) rfl rfl (Nat.le_of_ble_eq_true rfl) (fun p e s m args below meth c C => ?_)
  rw [F_Waves_set] at hf
  refine z_iload_n C d_Waves_set_0 1 rfl rfl ?_
  refine z_iconst C d_Waves_set_1 zki_0 ?_
  refine z_iconst C d_Waves_set_2 zki_4 ?_
  obtain ⟨_, h1, hf⟩ := bd_s hf
  refine z_cSv C kl_Waves_56 (c_Waves_checkWithin h1) rfl rfl (Nat.le_of_ble_eq_true rfl) ⟨(Nat.le_of_ble_eq_true rfl), (Nat.le_of_ble_eq_true rfl)⟩ ⟨(Nat.le_of_ble_eq_true rfl), (Nat.le_of_ble_eq_true rfl)⟩ d_Waves_set_3 ?_
  refine z_iload_n C d_Waves_set_6 2 rfl rfl ?_
  refine z_gs C 1 (by decide) zq567 d_Waves_set_7 ?_
  refine z_iload_n C d_Waves_set_10 1 rfl rfl ?_
  obtain ⟨r3, h2, hf⟩ := bd_s hf
  refine z_cSi C kl_Waves_131 (c_Waves_element (by decide) h2) rfl rfl (Nat.le_of_ble_eq_true rfl) ⟨(Nat.le_of_ble_eq_true rfl), (Nat.le_of_ble_eq_true rfl)⟩ ⟨(Nat.le_of_ble_eq_true rfl), (Nat.le_of_ble_eq_true rfl)⟩ d_Waves_set_11 ?_
  refine z_gs C 2 (by decide) zq570 d_Waves_set_14 ?_
  refine z_iload_n C d_Waves_set_17 1 rfl rfl ?_
  obtain ⟨r5, h4, hf⟩ := bd_s hf
  refine z_cSi C kl_Waves_131 (c_Waves_element (by decide) h4) rfl rfl (Nat.le_of_ble_eq_true rfl) ⟨(Nat.le_of_ble_eq_true rfl), (Nat.le_of_ble_eq_true rfl)⟩ ⟨(Nat.le_of_ble_eq_true rfl), (Nat.le_of_ble_eq_true rfl)⟩ d_Waves_set_18 ?_
  obtain ⟨_, h6, hf⟩ := bd_s hf
  refine z_cSv C kl_Waves_56 (c_Waves_checkWithin h6) rfl rfl (Nat.le_of_ble_eq_true rfl) ⟨(Nat.le_of_ble_eq_true rfl), (Nat.le_of_ble_eq_true rfl)⟩ ⟨(Nat.le_of_ble_eq_true rfl), (Nat.le_of_ble_eq_true rfl)⟩ d_Waves_set_21 ?_
  refine z_aload_n C d_Waves_set_24 0 rfl rfl ?_
  refine gf_Waves_10 C (zx4 hx 70 rfl) rfl rfl d_Waves_set_25 ?_
  refine gf_Waves_138 C (zlv (zxv hx 0 rfl) 0 rfl) rfl rfl d_Waves_set_28 ?_
  refine z_iload_n C d_Waves_set_31 1 rfl rfl ?_
  obtain ⟨r8, h7, hf⟩ := bd_s hf
  refine z_cVi C kl_Waves_123 rfl (c_Row_get (zrow_v (zxv hx 0 rfl) 1 rfl) h7) (zlv (zxv hx 0 rfl) 1 rfl) rfl rfl rfl (Nat.le_of_ble_eq_true rfl) ⟨(Nat.le_of_ble_eq_true rfl), (Nat.le_of_ble_eq_true rfl)⟩ ⟨(Nat.le_of_ble_eq_true rfl), (Nat.le_of_ble_eq_true rfl)⟩ d_Waves_set_32 ?_
  refine z_istore_n C d_Waves_set_35 rfl (by decide) ?_
  refine z_aload_n C d_Waves_set_36 1 rfl rfl ?_
  refine gf_Waves_10 C (zx4 hx 70 rfl) rfl rfl d_Waves_set_37 ?_
  refine gf_Waves_138 C (zlv (zxv hx 0 rfl) 0 rfl) rfl rfl d_Waves_set_40 ?_
  refine z_iload_n C d_Waves_set_43 2 rfl rfl ?_
  refine z_iload_n C d_Waves_set_44 3 rfl rfl ?_
  obtain ⟨σ10, h9, hf⟩ := bd_s hf
  refine z_cVv C kl_Waves_108 rfl (c_Row_put (zrow_v (zxv hx 0 rfl) 1 rfl) h9) (zlv (zxv hx 0 rfl) 1 rfl) rfl rfl rfl (Nat.le_of_ble_eq_true rfl) ⟨(Nat.le_of_ble_eq_true rfl), (Nat.le_of_ble_eq_true rfl)⟩ ⟨(Nat.le_of_ble_eq_true rfl), (Nat.le_of_ble_eq_true rfl)⟩ d_Waves_set_45 ?_
  refine z_iload_n C d_Waves_set_48 0 rfl rfl ?_
  cases hf
  exact z_iret C rfl (Nat.le_of_ble_eq_true rfl) (Nat.le_of_ble_eq_true rfl) d_Waves_set_49
abbrev rm_Waves_seed : Room := { frames := 7, cells := 0, slots := 0, locals := 114 }
theorem d_Waves_seed_0 : decode b_Waves_seed 0 = .ok (.iload_n 1, 1) := by decide +kernel
theorem d_Waves_seed_1 : decode b_Waves_seed 1 = .ok (.iconst 0, 1) := by decide +kernel
theorem d_Waves_seed_2 : decode b_Waves_seed 2 = .ok (.ldc 141, 2) := by decide +kernel
theorem d_Waves_seed_4 : decode b_Waves_seed 4 = .ok (.invokestatic 56, 3) := by decide +kernel
theorem d_Waves_seed_7 : decode b_Waves_seed 7 = .ok (.aload_n 0, 1) := by decide +kernel
theorem d_Waves_seed_8 : decode b_Waves_seed 8 = .ok (.getfield 10, 3) := by decide +kernel
theorem d_Waves_seed_11 : decode b_Waves_seed 11 = .ok (.iload_n 1, 1) := by decide +kernel
theorem d_Waves_seed_12 : decode b_Waves_seed 12 = .ok (.putfield 142, 3) := by decide +kernel
theorem d_Waves_seed_15 : decode b_Waves_seed 15 = .ok (.return_, 1) := by decide +kernel
def F_Waves_seed (a0 : Int32) (σ : zSt) : Option (zSt) :=
  (F_Waves_checkWithin a0 (0 : Int32) (1000002 : Int32) σ).bind fun _ => some (zst σ 0 0 2 a0)
set_option maxHeartbeats 4000000 in
set_option maxRecDepth 100000 in
theorem c_Waves_seed {l : Launch} {G : zLA} (hx : zxl G) {a0 : Int32} {σ : zSt} {σ' : zSt} (hf : F_Waves_seed a0 σ = some σ') : zM l G y_Waves_seed (zws y_Waves_seed b_Waves_seed 2 none) rm_Waves_seed [.ref (zad G 4 70), .int a0] σ none σ' := by
  refine z_ofM (own := "VillageWaves") (lv := [(0, .ref (zad G 4 70)), (1, .int a0)]) (by decide +kernel) rfl rfl (Nat.le_of_ble_eq_true rfl) (fun p e s m args below meth c C => ?_)
  rw [F_Waves_seed] at hf
  refine z_iload_n C d_Waves_seed_0 1 rfl rfl ?_
  refine z_iconst C d_Waves_seed_1 zki_0 ?_
  refine z_ldc C d_Waves_seed_2 zq581 ?_
  obtain ⟨_, h1, hf⟩ := bd_s hf
  refine z_cSv C kl_Waves_56 (c_Waves_checkWithin h1) rfl rfl (Nat.le_of_ble_eq_true rfl) ⟨(Nat.le_of_ble_eq_true rfl), (Nat.le_of_ble_eq_true rfl)⟩ ⟨(Nat.le_of_ble_eq_true rfl), (Nat.le_of_ble_eq_true rfl)⟩ d_Waves_seed_4 ?_
  refine z_aload_n C d_Waves_seed_7 0 rfl rfl ?_
  refine gf_Waves_10 C (zx4 hx 70 rfl) rfl rfl d_Waves_seed_8 ?_
  refine z_iload_n C d_Waves_seed_11 1 rfl rfl ?_
  refine pf_Waves_142 C (zlv (zxv hx 0 rfl) 0 rfl) rfl (Nat.le_of_ble_eq_true rfl) rfl d_Waves_seed_12 ?_
  cases hf
  exact z_vret C rfl (Nat.le_of_ble_eq_true rfl) (Nat.le_of_ble_eq_true rfl) d_Waves_seed_15
abbrev rm_Waves_count : Room := { frames := 7, cells := 0, slots := 0, locals := 114 }
theorem d_Waves_count_0 : decode b_Waves_count 0 = .ok (.iload_n 1, 1) := by decide +kernel
theorem d_Waves_count_1 : decode b_Waves_count 1 = .ok (.iconst 0, 1) := by decide +kernel
theorem d_Waves_count_2 : decode b_Waves_count 2 = .ok (.bipush 13, 2) := by decide +kernel
theorem d_Waves_count_4 : decode b_Waves_count 4 = .ok (.invokestatic 56, 3) := by decide +kernel
theorem d_Waves_count_7 : decode b_Waves_count 7 = .ok (.iload_n 1, 1) := by decide +kernel
theorem d_Waves_count_8 : decode b_Waves_count 8 = .ok (.tableswitch 160 5 13 #[52, 60, 71, 82, 90, 98, 109, 127, 138], 52) := by decide +kernel
theorem d_Waves_count_60 : decode b_Waves_count 60 = .ok (.aload_n 0, 1) := by decide +kernel
theorem d_Waves_count_61 : decode b_Waves_count 61 = .ok (.getfield 10, 3) := by decide +kernel
theorem d_Waves_count_64 : decode b_Waves_count 64 = .ok (.getfield 96, 3) := by decide +kernel
theorem d_Waves_count_67 : decode b_Waves_count 67 = .ok (.ireturn, 1) := by decide +kernel
theorem d_Waves_count_68 : decode b_Waves_count 68 = .ok (.aload_n 0, 1) := by decide +kernel
theorem d_Waves_count_69 : decode b_Waves_count 69 = .ok (.getfield 10, 3) := by decide +kernel
theorem d_Waves_count_72 : decode b_Waves_count 72 = .ok (.getfield 68, 3) := by decide +kernel
theorem d_Waves_count_75 : decode b_Waves_count 75 = .ok (.getfield 72, 3) := by decide +kernel
theorem d_Waves_count_78 : decode b_Waves_count 78 = .ok (.ireturn, 1) := by decide +kernel
theorem d_Waves_count_79 : decode b_Waves_count 79 = .ok (.aload_n 0, 1) := by decide +kernel
theorem d_Waves_count_80 : decode b_Waves_count 80 = .ok (.getfield 10, 3) := by decide +kernel
theorem d_Waves_count_83 : decode b_Waves_count 83 = .ok (.getfield 145, 3) := by decide +kernel
theorem d_Waves_count_86 : decode b_Waves_count 86 = .ok (.getfield 149, 3) := by decide +kernel
theorem d_Waves_count_89 : decode b_Waves_count 89 = .ok (.ireturn, 1) := by decide +kernel
theorem d_Waves_count_90 : decode b_Waves_count 90 = .ok (.aload_n 0, 1) := by decide +kernel
theorem d_Waves_count_91 : decode b_Waves_count 91 = .ok (.getfield 10, 3) := by decide +kernel
theorem d_Waves_count_94 : decode b_Waves_count 94 = .ok (.getfield 152, 3) := by decide +kernel
theorem d_Waves_count_97 : decode b_Waves_count 97 = .ok (.ireturn, 1) := by decide +kernel
theorem d_Waves_count_98 : decode b_Waves_count 98 = .ok (.aload_n 0, 1) := by decide +kernel
theorem d_Waves_count_99 : decode b_Waves_count 99 = .ok (.getfield 10, 3) := by decide +kernel
theorem d_Waves_count_102 : decode b_Waves_count 102 = .ok (.getfield 142, 3) := by decide +kernel
theorem d_Waves_count_105 : decode b_Waves_count 105 = .ok (.ireturn, 1) := by decide +kernel
theorem d_Waves_count_106 : decode b_Waves_count 106 = .ok (.aload_n 0, 1) := by decide +kernel
theorem d_Waves_count_107 : decode b_Waves_count 107 = .ok (.getfield 10, 3) := by decide +kernel
theorem d_Waves_count_110 : decode b_Waves_count 110 = .ok (.getfield 155, 3) := by decide +kernel
theorem d_Waves_count_113 : decode b_Waves_count 113 = .ok (.getfield 159, 3) := by decide +kernel
theorem d_Waves_count_116 : decode b_Waves_count 116 = .ok (.ireturn, 1) := by decide +kernel
theorem d_Waves_count_117 : decode b_Waves_count 117 = .ok (.aload_n 0, 1) := by decide +kernel
theorem d_Waves_count_118 : decode b_Waves_count 118 = .ok (.getfield 10, 3) := by decide +kernel
theorem d_Waves_count_121 : decode b_Waves_count 121 = .ok (.getfield 68, 3) := by decide +kernel
theorem d_Waves_count_124 : decode b_Waves_count 124 = .ok (.aload_n 0, 1) := by decide +kernel
theorem d_Waves_count_125 : decode b_Waves_count 125 = .ok (.getfield 10, 3) := by decide +kernel
theorem d_Waves_count_128 : decode b_Waves_count 128 = .ok (.invokevirtual 164, 3) := by decide +kernel
theorem d_Waves_count_131 : decode b_Waves_count 131 = .ok (.invokevirtual 168, 3) := by decide +kernel
theorem d_Waves_count_134 : decode b_Waves_count 134 = .ok (.ireturn, 1) := by decide +kernel
theorem d_Waves_count_135 : decode b_Waves_count 135 = .ok (.aload_n 0, 1) := by decide +kernel
theorem d_Waves_count_136 : decode b_Waves_count 136 = .ok (.getfield 10, 3) := by decide +kernel
theorem d_Waves_count_139 : decode b_Waves_count 139 = .ok (.getfield 145, 3) := by decide +kernel
theorem d_Waves_count_142 : decode b_Waves_count 142 = .ok (.invokevirtual 171, 3) := by decide +kernel
theorem d_Waves_count_145 : decode b_Waves_count 145 = .ok (.ireturn, 1) := by decide +kernel
theorem d_Waves_count_146 : decode b_Waves_count 146 = .ok (.aload_n 0, 1) := by decide +kernel
theorem d_Waves_count_147 : decode b_Waves_count 147 = .ok (.getfield 10, 3) := by decide +kernel
theorem d_Waves_count_150 : decode b_Waves_count 150 = .ok (.getfield 174, 3) := by decide +kernel
theorem d_Waves_count_153 : decode b_Waves_count 153 = .ok (.invokevirtual 178, 3) := by decide +kernel
theorem d_Waves_count_156 : decode b_Waves_count 156 = .ok (.aload_n 0, 1) := by decide +kernel
theorem d_Waves_count_157 : decode b_Waves_count 157 = .ok (.getfield 10, 3) := by decide +kernel
theorem d_Waves_count_160 : decode b_Waves_count 160 = .ok (.getfield 182, 3) := by decide +kernel
theorem d_Waves_count_163 : decode b_Waves_count 163 = .ok (.invokevirtual 178, 3) := by decide +kernel
theorem d_Waves_count_166 : decode b_Waves_count 166 = .ok (.iadd, 1) := by decide +kernel
theorem d_Waves_count_167 : decode b_Waves_count 167 = .ok (.ireturn, 1) := by decide +kernel
theorem d_Waves_count_168 : decode b_Waves_count 168 = .ok (.aload_n 0, 1) := by decide +kernel
theorem d_Waves_count_169 : decode b_Waves_count 169 = .ok (.getfield 10, 3) := by decide +kernel
theorem d_Waves_count_172 : decode b_Waves_count 172 = .ok (.getfield 138, 3) := by decide +kernel
theorem d_Waves_count_175 : decode b_Waves_count 175 = .ok (.iload_n 1, 1) := by decide +kernel
theorem d_Waves_count_176 : decode b_Waves_count 176 = .ok (.invokevirtual 123, 3) := by decide +kernel
theorem d_Waves_count_179 : decode b_Waves_count 179 = .ok (.ireturn, 1) := by decide +kernel
def F_Waves_count (a0 : Int32) (σ : zSt) : Option (Int32) :=
  (F_Waves_checkWithin a0 (0 : Int32) (13 : Int32) σ).bind fun _ => if a0 = (5 : Int32) then some (σ.1 0 0 0) else (if a0 = (6 : Int32) then some (σ.1 0 3 0) else (if a0 = (7 : Int32) then some (σ.1 0 24 0) else (if a0 = (8 : Int32) then some (σ.1 0 0 1) else (if a0 = (9 : Int32) then some (σ.1 0 0 2) else (if a0 = (10 : Int32) then some (σ.1 0 59 0) else (if a0 = (11 : Int32) then ((F_Village_minuteOfDay 0 σ).bind fun r10 => (F_Homes_quietAt 0 r10 σ).bind fun r12 => some r12) else (if a0 = (12 : Int32) then ((F_Tidings_correctedNumber 0 σ).bind fun r15 => some r15) else (if a0 = (13 : Int32) then ((F_Entries_total 0 43 σ).bind fun r18 => (F_Entries_total 0 48 σ).bind fun r20 => some (r18 + r20)) else ((F_Row_get 0 1 a0 σ).bind fun r22 => some r22)))))))))
set_option maxHeartbeats 4000000 in
set_option maxRecDepth 100000 in
theorem c_Waves_count {l : Launch} {G : zLA} (hx : zxl G) {a0 : Int32} {σ : zSt} {r : Int32} (hf : F_Waves_count a0 σ = some r) : zM l G y_Waves_count (zws y_Waves_count b_Waves_count 2 (some .int)) rm_Waves_count [.ref (zad G 4 70), .int a0] σ (some (.int r)) σ := by
  refine z_ofM (own := "VillageWaves") (lv := [(0, .ref (zad G 4 70)), (1, .int a0)]) (by decide +kernel) rfl rfl (Nat.le_of_ble_eq_true rfl) (fun p e s m args below meth c C => ?_)
  rw [F_Waves_count] at hf
  refine z_iload_n C d_Waves_count_0 1 rfl rfl ?_
  refine z_iconst C d_Waves_count_1 zki_0 ?_
  refine z_bipush C d_Waves_count_2 zkb_13 ?_
  obtain ⟨_, h1, hf⟩ := bd_s hf
  refine z_cSv C kl_Waves_56 (c_Waves_checkWithin h1) rfl rfl (Nat.le_of_ble_eq_true rfl) ⟨(Nat.le_of_ble_eq_true rfl), (Nat.le_of_ble_eq_true rfl)⟩ ⟨(Nat.le_of_ble_eq_true rfl), (Nat.le_of_ble_eq_true rfl)⟩ d_Waves_count_4 ?_
  refine z_iload_n C d_Waves_count_7 1 rfl rfl ?_
  by_cases h2 : a0 = (5 : Int32)
  · have hf := iff_t hf h2
    refine z_tin (off := 52) (tgt := 60) C d_Waves_count_8 (by rw [h2]; decide) (by rw [h2]; decide) (by rw [h2]; rfl) rfl ?_
    refine z_aload_n C d_Waves_count_60 0 rfl rfl ?_
    refine gf_Waves_10 C (zx4 hx 70 rfl) rfl rfl d_Waves_count_61 ?_
    refine gf_Waves_96 C (zlv (zxv hx 0 rfl) 0 rfl) rfl rfl d_Waves_count_64 ?_
    cases hf
    exact z_iret C rfl (Nat.le_of_ble_eq_true rfl) (Nat.le_of_ble_eq_true rfl) d_Waves_count_67
  · have hf := iff_f hf h2
    by_cases h3 : a0 = (6 : Int32)
    · have hf := iff_t hf h3
      refine z_tin (off := 60) (tgt := 68) C d_Waves_count_8 (by rw [h3]; decide) (by rw [h3]; decide) (by rw [h3]; rfl) rfl ?_
      refine z_aload_n C d_Waves_count_68 0 rfl rfl ?_
      refine gf_Waves_10 C (zx4 hx 70 rfl) rfl rfl d_Waves_count_69 ?_
      refine gf_Waves_68 C (zlv (zxv hx 0 rfl) 0 rfl) rfl rfl d_Waves_count_72 ?_
      refine gf_Waves_72 C (zlv (zxv hx 0 rfl) 3 rfl) rfl rfl d_Waves_count_75 ?_
      cases hf
      exact z_iret C rfl (Nat.le_of_ble_eq_true rfl) (Nat.le_of_ble_eq_true rfl) d_Waves_count_78
    · have hf := iff_f hf h3
      by_cases h4 : a0 = (7 : Int32)
      · have hf := iff_t hf h4
        refine z_tin (off := 71) (tgt := 79) C d_Waves_count_8 (by rw [h4]; decide) (by rw [h4]; decide) (by rw [h4]; rfl) rfl ?_
        refine z_aload_n C d_Waves_count_79 0 rfl rfl ?_
        refine gf_Waves_10 C (zx4 hx 70 rfl) rfl rfl d_Waves_count_80 ?_
        refine gf_Waves_145 C (zlv (zxv hx 0 rfl) 0 rfl) rfl rfl d_Waves_count_83 ?_
        refine gf_Waves_149 C (zlv (zxv hx 0 rfl) 24 rfl) rfl rfl d_Waves_count_86 ?_
        cases hf
        exact z_iret C rfl (Nat.le_of_ble_eq_true rfl) (Nat.le_of_ble_eq_true rfl) d_Waves_count_89
      · have hf := iff_f hf h4
        by_cases h5 : a0 = (8 : Int32)
        · have hf := iff_t hf h5
          refine z_tin (off := 82) (tgt := 90) C d_Waves_count_8 (by rw [h5]; decide) (by rw [h5]; decide) (by rw [h5]; rfl) rfl ?_
          refine z_aload_n C d_Waves_count_90 0 rfl rfl ?_
          refine gf_Waves_10 C (zx4 hx 70 rfl) rfl rfl d_Waves_count_91 ?_
          refine gf_Waves_152 C (zlv (zxv hx 0 rfl) 0 rfl) rfl rfl d_Waves_count_94 ?_
          cases hf
          exact z_iret C rfl (Nat.le_of_ble_eq_true rfl) (Nat.le_of_ble_eq_true rfl) d_Waves_count_97
        · have hf := iff_f hf h5
          by_cases h6 : a0 = (9 : Int32)
          · have hf := iff_t hf h6
            refine z_tin (off := 90) (tgt := 98) C d_Waves_count_8 (by rw [h6]; decide) (by rw [h6]; decide) (by rw [h6]; rfl) rfl ?_
            refine z_aload_n C d_Waves_count_98 0 rfl rfl ?_
            refine gf_Waves_10 C (zx4 hx 70 rfl) rfl rfl d_Waves_count_99 ?_
            refine gf_Waves_142 C (zlv (zxv hx 0 rfl) 0 rfl) rfl rfl d_Waves_count_102 ?_
            cases hf
            exact z_iret C rfl (Nat.le_of_ble_eq_true rfl) (Nat.le_of_ble_eq_true rfl) d_Waves_count_105
          · have hf := iff_f hf h6
            by_cases h7 : a0 = (10 : Int32)
            · have hf := iff_t hf h7
              refine z_tin (off := 98) (tgt := 106) C d_Waves_count_8 (by rw [h7]; decide) (by rw [h7]; decide) (by rw [h7]; rfl) rfl ?_
              refine z_aload_n C d_Waves_count_106 0 rfl rfl ?_
              refine gf_Waves_10 C (zx4 hx 70 rfl) rfl rfl d_Waves_count_107 ?_
              refine gf_Waves_155 C (zlv (zxv hx 0 rfl) 0 rfl) rfl rfl d_Waves_count_110 ?_
              refine gf_Waves_159 C (zlv (zxv hx 0 rfl) 59 rfl) rfl rfl d_Waves_count_113 ?_
              cases hf
              exact z_iret C rfl (Nat.le_of_ble_eq_true rfl) (Nat.le_of_ble_eq_true rfl) d_Waves_count_116
            · have hf := iff_f hf h7
              by_cases h8 : a0 = (11 : Int32)
              · have hf := iff_t hf h8
                refine z_tin (off := 109) (tgt := 117) C d_Waves_count_8 (by rw [h8]; decide) (by rw [h8]; decide) (by rw [h8]; rfl) rfl ?_
                refine z_aload_n C d_Waves_count_117 0 rfl rfl ?_
                refine gf_Waves_10 C (zx4 hx 70 rfl) rfl rfl d_Waves_count_118 ?_
                refine gf_Waves_68 C (zlv (zxv hx 0 rfl) 0 rfl) rfl rfl d_Waves_count_121 ?_
                refine z_aload_n C d_Waves_count_124 0 rfl rfl ?_
                refine gf_Waves_10 C (zx4 hx 70 rfl) rfl rfl d_Waves_count_125 ?_
                obtain ⟨r10, h9, hf⟩ := bd_s hf
                refine z_cVi C kl_Waves_164 rfl (c_Village_minuteOfDay (zxv hx 0 rfl) h9) (zlv (zxv hx 0 rfl) 0 rfl) rfl rfl rfl (Nat.le_of_ble_eq_true rfl) ⟨(Nat.le_of_ble_eq_true rfl), (Nat.le_of_ble_eq_true rfl)⟩ ⟨(Nat.le_of_ble_eq_true rfl), (Nat.le_of_ble_eq_true rfl)⟩ d_Waves_count_128 ?_
                obtain ⟨r12, h11, hf⟩ := bd_s hf
                refine z_cVi C kl_Waves_168 rfl (c_Homes_quietAt (zxv hx 0 rfl) h11) (zlv (zxv hx 0 rfl) 3 rfl) rfl rfl rfl (Nat.le_of_ble_eq_true rfl) ⟨(Nat.le_of_ble_eq_true rfl), (Nat.le_of_ble_eq_true rfl)⟩ ⟨(Nat.le_of_ble_eq_true rfl), (Nat.le_of_ble_eq_true rfl)⟩ d_Waves_count_131 ?_
                cases hf
                exact z_iret C rfl (Nat.le_of_ble_eq_true rfl) (Nat.le_of_ble_eq_true rfl) d_Waves_count_134
              · have hf := iff_f hf h8
                by_cases h13 : a0 = (12 : Int32)
                · have hf := iff_t hf h13
                  refine z_tin (off := 127) (tgt := 135) C d_Waves_count_8 (by rw [h13]; decide) (by rw [h13]; decide) (by rw [h13]; rfl) rfl ?_
                  refine z_aload_n C d_Waves_count_135 0 rfl rfl ?_
                  refine gf_Waves_10 C (zx4 hx 70 rfl) rfl rfl d_Waves_count_136 ?_
                  refine gf_Waves_145 C (zlv (zxv hx 0 rfl) 0 rfl) rfl rfl d_Waves_count_139 ?_
                  obtain ⟨r15, h14, hf⟩ := bd_s hf
                  refine z_cVi C kl_Waves_171 rfl (c_Tidings_correctedNumber (zxv hx 0 rfl) h14) (zlv (zxv hx 0 rfl) 24 rfl) rfl rfl rfl (Nat.le_of_ble_eq_true rfl) ⟨(Nat.le_of_ble_eq_true rfl), (Nat.le_of_ble_eq_true rfl)⟩ ⟨(Nat.le_of_ble_eq_true rfl), (Nat.le_of_ble_eq_true rfl)⟩ d_Waves_count_142 ?_
                  cases hf
                  exact z_iret C rfl (Nat.le_of_ble_eq_true rfl) (Nat.le_of_ble_eq_true rfl) d_Waves_count_145
                · have hf := iff_f hf h13
                  by_cases h16 : a0 = (13 : Int32)
                  · have hf := iff_t hf h16
                    refine z_tin (off := 138) (tgt := 146) C d_Waves_count_8 (by rw [h16]; decide) (by rw [h16]; decide) (by rw [h16]; rfl) rfl ?_
                    refine z_aload_n C d_Waves_count_146 0 rfl rfl ?_
                    refine gf_Waves_10 C (zx4 hx 70 rfl) rfl rfl d_Waves_count_147 ?_
                    refine gf_Waves_174 C (zlv (zxv hx 0 rfl) 0 rfl) rfl rfl d_Waves_count_150 ?_
                    obtain ⟨r18, h17, hf⟩ := bd_s hf
                    refine z_cVi C kl_Waves_178 rfl (c_Entries_total (zxv hx 0 rfl) (Or.inl rfl) h17) (zlv (zxv hx 0 rfl) 43 rfl) rfl rfl rfl (Nat.le_of_ble_eq_true rfl) ⟨(Nat.le_of_ble_eq_true rfl), (Nat.le_of_ble_eq_true rfl)⟩ ⟨(Nat.le_of_ble_eq_true rfl), (Nat.le_of_ble_eq_true rfl)⟩ d_Waves_count_153 ?_
                    refine z_aload_n C d_Waves_count_156 0 rfl rfl ?_
                    refine gf_Waves_10 C (zx4 hx 70 rfl) rfl rfl d_Waves_count_157 ?_
                    refine gf_Waves_182 C (zlv (zxv hx 0 rfl) 0 rfl) rfl rfl d_Waves_count_160 ?_
                    obtain ⟨r20, h19, hf⟩ := bd_s hf
                    refine z_cVi C kl_Waves_178 rfl (c_Entries_total (zxv hx 0 rfl) (Or.inr rfl) h19) (zlv (zxv hx 0 rfl) 48 rfl) rfl rfl rfl (Nat.le_of_ble_eq_true rfl) ⟨(Nat.le_of_ble_eq_true rfl), (Nat.le_of_ble_eq_true rfl)⟩ ⟨(Nat.le_of_ble_eq_true rfl), (Nat.le_of_ble_eq_true rfl)⟩ d_Waves_count_163 ?_
                    refine z_iadd C d_Waves_count_166 ?_
                    cases hf
                    exact z_iret C rfl (Nat.le_of_ble_eq_true rfl) (Nat.le_of_ble_eq_true rfl) d_Waves_count_167
                  · have hf := iff_f hf h16
                    refine z_tout (tgt := 168) C d_Waves_count_8 (ztab_5_13 h2 h3 h4 h5 h6 h7 h8 h13 h16) rfl ?_
                    refine z_aload_n C d_Waves_count_168 0 rfl rfl ?_
                    refine gf_Waves_10 C (zx4 hx 70 rfl) rfl rfl d_Waves_count_169 ?_
                    refine gf_Waves_138 C (zlv (zxv hx 0 rfl) 0 rfl) rfl rfl d_Waves_count_172 ?_
                    refine z_iload_n C d_Waves_count_175 1 rfl rfl ?_
                    obtain ⟨r22, h21, hf⟩ := bd_s hf
                    refine z_cVi C kl_Waves_123 rfl (c_Row_get (zrow_v (zxv hx 0 rfl) 1 rfl) h21) (zlv (zxv hx 0 rfl) 1 rfl) rfl rfl rfl (Nat.le_of_ble_eq_true rfl) ⟨(Nat.le_of_ble_eq_true rfl), (Nat.le_of_ble_eq_true rfl)⟩ ⟨(Nat.le_of_ble_eq_true rfl), (Nat.le_of_ble_eq_true rfl)⟩ d_Waves_count_176 ?_
                    cases hf
                    exact z_iret C rfl (Nat.le_of_ble_eq_true rfl) (Nat.le_of_ble_eq_true rfl) d_Waves_count_179
abbrev rm_Waves_house : Room := { frames := 7, cells := 0, slots := 0, locals := 114 }
theorem d_Waves_house_0 : decode b_Waves_house 0 = .ok (.aload_n 0, 1) := by decide +kernel
theorem d_Waves_house_1 : decode b_Waves_house 1 = .ok (.iload_n 1, 1) := by decide +kernel
theorem d_Waves_house_2 : decode b_Waves_house 2 = .ok (.invokevirtual 93, 3) := by decide +kernel
theorem d_Waves_house_5 : decode b_Waves_house 5 = .ok (.iload_n 2, 1) := by decide +kernel
theorem d_Waves_house_6 : decode b_Waves_house 6 = .ok (.iconst 0, 1) := by decide +kernel
theorem d_Waves_house_7 : decode b_Waves_house 7 = .ok (.bipush 14, 2) := by decide +kernel
theorem d_Waves_house_9 : decode b_Waves_house 9 = .ok (.invokestatic 56, 3) := by decide +kernel
theorem d_Waves_house_12 : decode b_Waves_house 12 = .ok (.iload_n 2, 1) := by decide +kernel
theorem d_Waves_house_13 : decode b_Waves_house 13 = .ok (.tableswitch 293 0 13 #[71, 86, 101, 116, 131, 146, 161, 176, 203, 218, 233, 245, 257, 269], 71) := by decide +kernel
theorem d_Waves_house_84 : decode b_Waves_house 84 = .ok (.aload_n 0, 1) := by decide +kernel
theorem d_Waves_house_85 : decode b_Waves_house 85 = .ok (.getfield 10, 3) := by decide +kernel
theorem d_Waves_house_88 : decode b_Waves_house 88 = .ok (.getfield 68, 3) := by decide +kernel
theorem d_Waves_house_91 : decode b_Waves_house 91 = .ok (.getfield 185, 3) := by decide +kernel
theorem d_Waves_house_94 : decode b_Waves_house 94 = .ok (.iload_n 1, 1) := by decide +kernel
theorem d_Waves_house_95 : decode b_Waves_house 95 = .ok (.invokevirtual 123, 3) := by decide +kernel
theorem d_Waves_house_98 : decode b_Waves_house 98 = .ok (.ireturn, 1) := by decide +kernel
theorem d_Waves_house_99 : decode b_Waves_house 99 = .ok (.aload_n 0, 1) := by decide +kernel
theorem d_Waves_house_100 : decode b_Waves_house 100 = .ok (.getfield 10, 3) := by decide +kernel
theorem d_Waves_house_103 : decode b_Waves_house 103 = .ok (.getfield 68, 3) := by decide +kernel
theorem d_Waves_house_106 : decode b_Waves_house 106 = .ok (.getfield 188, 3) := by decide +kernel
theorem d_Waves_house_109 : decode b_Waves_house 109 = .ok (.iload_n 1, 1) := by decide +kernel
theorem d_Waves_house_110 : decode b_Waves_house 110 = .ok (.invokevirtual 123, 3) := by decide +kernel
theorem d_Waves_house_113 : decode b_Waves_house 113 = .ok (.ireturn, 1) := by decide +kernel
theorem d_Waves_house_114 : decode b_Waves_house 114 = .ok (.aload_n 0, 1) := by decide +kernel
theorem d_Waves_house_115 : decode b_Waves_house 115 = .ok (.getfield 10, 3) := by decide +kernel
theorem d_Waves_house_118 : decode b_Waves_house 118 = .ok (.getfield 68, 3) := by decide +kernel
theorem d_Waves_house_121 : decode b_Waves_house 121 = .ok (.getfield 191, 3) := by decide +kernel
theorem d_Waves_house_124 : decode b_Waves_house 124 = .ok (.iload_n 1, 1) := by decide +kernel
theorem d_Waves_house_125 : decode b_Waves_house 125 = .ok (.invokevirtual 123, 3) := by decide +kernel
theorem d_Waves_house_128 : decode b_Waves_house 128 = .ok (.ireturn, 1) := by decide +kernel
theorem d_Waves_house_129 : decode b_Waves_house 129 = .ok (.aload_n 0, 1) := by decide +kernel
theorem d_Waves_house_130 : decode b_Waves_house 130 = .ok (.getfield 10, 3) := by decide +kernel
theorem d_Waves_house_133 : decode b_Waves_house 133 = .ok (.getfield 68, 3) := by decide +kernel
theorem d_Waves_house_136 : decode b_Waves_house 136 = .ok (.getfield 120, 3) := by decide +kernel
theorem d_Waves_house_139 : decode b_Waves_house 139 = .ok (.iload_n 1, 1) := by decide +kernel
theorem d_Waves_house_140 : decode b_Waves_house 140 = .ok (.invokevirtual 123, 3) := by decide +kernel
theorem d_Waves_house_143 : decode b_Waves_house 143 = .ok (.ireturn, 1) := by decide +kernel
theorem d_Waves_house_144 : decode b_Waves_house 144 = .ok (.aload_n 0, 1) := by decide +kernel
theorem d_Waves_house_145 : decode b_Waves_house 145 = .ok (.getfield 10, 3) := by decide +kernel
theorem d_Waves_house_148 : decode b_Waves_house 148 = .ok (.getfield 68, 3) := by decide +kernel
theorem d_Waves_house_151 : decode b_Waves_house 151 = .ok (.getfield 194, 3) := by decide +kernel
theorem d_Waves_house_154 : decode b_Waves_house 154 = .ok (.iload_n 1, 1) := by decide +kernel
theorem d_Waves_house_155 : decode b_Waves_house 155 = .ok (.invokevirtual 123, 3) := by decide +kernel
theorem d_Waves_house_158 : decode b_Waves_house 158 = .ok (.ireturn, 1) := by decide +kernel
theorem d_Waves_house_159 : decode b_Waves_house 159 = .ok (.aload_n 0, 1) := by decide +kernel
theorem d_Waves_house_160 : decode b_Waves_house 160 = .ok (.getfield 10, 3) := by decide +kernel
theorem d_Waves_house_163 : decode b_Waves_house 163 = .ok (.getfield 68, 3) := by decide +kernel
theorem d_Waves_house_166 : decode b_Waves_house 166 = .ok (.getfield 104, 3) := by decide +kernel
theorem d_Waves_house_169 : decode b_Waves_house 169 = .ok (.iload_n 1, 1) := by decide +kernel
theorem d_Waves_house_170 : decode b_Waves_house 170 = .ok (.invokevirtual 123, 3) := by decide +kernel
theorem d_Waves_house_173 : decode b_Waves_house 173 = .ok (.ireturn, 1) := by decide +kernel
theorem d_Waves_house_174 : decode b_Waves_house 174 = .ok (.aload_n 0, 1) := by decide +kernel
theorem d_Waves_house_175 : decode b_Waves_house 175 = .ok (.getfield 10, 3) := by decide +kernel
theorem d_Waves_house_178 : decode b_Waves_house 178 = .ok (.getfield 68, 3) := by decide +kernel
theorem d_Waves_house_181 : decode b_Waves_house 181 = .ok (.getfield 114, 3) := by decide +kernel
theorem d_Waves_house_184 : decode b_Waves_house 184 = .ok (.iload_n 1, 1) := by decide +kernel
theorem d_Waves_house_185 : decode b_Waves_house 185 = .ok (.invokevirtual 123, 3) := by decide +kernel
theorem d_Waves_house_188 : decode b_Waves_house 188 = .ok (.ireturn, 1) := by decide +kernel
theorem d_Waves_house_189 : decode b_Waves_house 189 = .ok (.aload_n 0, 1) := by decide +kernel
theorem d_Waves_house_190 : decode b_Waves_house 190 = .ok (.getfield 10, 3) := by decide +kernel
theorem d_Waves_house_193 : decode b_Waves_house 193 = .ok (.getfield 68, 3) := by decide +kernel
theorem d_Waves_house_196 : decode b_Waves_house 196 = .ok (.iload_n 1, 1) := by decide +kernel
theorem d_Waves_house_197 : decode b_Waves_house 197 = .ok (.aload_n 0, 1) := by decide +kernel
theorem d_Waves_house_198 : decode b_Waves_house 198 = .ok (.getfield 10, 3) := by decide +kernel
theorem d_Waves_house_201 : decode b_Waves_house 201 = .ok (.invokevirtual 164, 3) := by decide +kernel
theorem d_Waves_house_204 : decode b_Waves_house 204 = .ok (.invokevirtual 197, 3) := by decide +kernel
theorem d_Waves_house_207 : decode b_Waves_house 207 = .ok (.ifCond .eq 7, 3) := by decide +kernel
theorem d_Waves_house_210 : decode b_Waves_house 210 = .ok (.iconst 1, 1) := by decide +kernel
theorem d_Waves_house_211 : decode b_Waves_house 211 = .ok (.goto 4, 3) := by decide +kernel
theorem d_Waves_house_214 : decode b_Waves_house 214 = .ok (.iconst 0, 1) := by decide +kernel
theorem d_Waves_house_215 : decode b_Waves_house 215 = .ok (.ireturn, 1) := by decide +kernel
theorem d_Waves_house_216 : decode b_Waves_house 216 = .ok (.aload_n 0, 1) := by decide +kernel
theorem d_Waves_house_217 : decode b_Waves_house 217 = .ok (.getfield 10, 3) := by decide +kernel
theorem d_Waves_house_220 : decode b_Waves_house 220 = .ok (.getfield 68, 3) := by decide +kernel
theorem d_Waves_house_223 : decode b_Waves_house 223 = .ok (.getfield 201, 3) := by decide +kernel
theorem d_Waves_house_226 : decode b_Waves_house 226 = .ok (.iload_n 1, 1) := by decide +kernel
theorem d_Waves_house_227 : decode b_Waves_house 227 = .ok (.invokevirtual 123, 3) := by decide +kernel
theorem d_Waves_house_230 : decode b_Waves_house 230 = .ok (.ireturn, 1) := by decide +kernel
theorem d_Waves_house_231 : decode b_Waves_house 231 = .ok (.aload_n 0, 1) := by decide +kernel
theorem d_Waves_house_232 : decode b_Waves_house 232 = .ok (.getfield 10, 3) := by decide +kernel
theorem d_Waves_house_235 : decode b_Waves_house 235 = .ok (.getfield 68, 3) := by decide +kernel
theorem d_Waves_house_238 : decode b_Waves_house 238 = .ok (.getfield 204, 3) := by decide +kernel
theorem d_Waves_house_241 : decode b_Waves_house 241 = .ok (.iload_n 1, 1) := by decide +kernel
theorem d_Waves_house_242 : decode b_Waves_house 242 = .ok (.invokevirtual 123, 3) := by decide +kernel
theorem d_Waves_house_245 : decode b_Waves_house 245 = .ok (.ireturn, 1) := by decide +kernel
theorem d_Waves_house_246 : decode b_Waves_house 246 = .ok (.aload_n 0, 1) := by decide +kernel
theorem d_Waves_house_247 : decode b_Waves_house 247 = .ok (.getfield 10, 3) := by decide +kernel
theorem d_Waves_house_250 : decode b_Waves_house 250 = .ok (.getfield 145, 3) := by decide +kernel
theorem d_Waves_house_253 : decode b_Waves_house 253 = .ok (.iload_n 1, 1) := by decide +kernel
theorem d_Waves_house_254 : decode b_Waves_house 254 = .ok (.invokevirtual 207, 3) := by decide +kernel
theorem d_Waves_house_257 : decode b_Waves_house 257 = .ok (.ireturn, 1) := by decide +kernel
theorem d_Waves_house_258 : decode b_Waves_house 258 = .ok (.aload_n 0, 1) := by decide +kernel
theorem d_Waves_house_259 : decode b_Waves_house 259 = .ok (.getfield 10, 3) := by decide +kernel
theorem d_Waves_house_262 : decode b_Waves_house 262 = .ok (.getfield 145, 3) := by decide +kernel
theorem d_Waves_house_265 : decode b_Waves_house 265 = .ok (.iload_n 1, 1) := by decide +kernel
theorem d_Waves_house_266 : decode b_Waves_house 266 = .ok (.invokevirtual 210, 3) := by decide +kernel
theorem d_Waves_house_269 : decode b_Waves_house 269 = .ok (.ireturn, 1) := by decide +kernel
theorem d_Waves_house_270 : decode b_Waves_house 270 = .ok (.aload_n 0, 1) := by decide +kernel
theorem d_Waves_house_271 : decode b_Waves_house 271 = .ok (.getfield 10, 3) := by decide +kernel
theorem d_Waves_house_274 : decode b_Waves_house 274 = .ok (.getfield 145, 3) := by decide +kernel
theorem d_Waves_house_277 : decode b_Waves_house 277 = .ok (.iload_n 1, 1) := by decide +kernel
theorem d_Waves_house_278 : decode b_Waves_house 278 = .ok (.invokevirtual 213, 3) := by decide +kernel
theorem d_Waves_house_281 : decode b_Waves_house 281 = .ok (.ireturn, 1) := by decide +kernel
theorem d_Waves_house_282 : decode b_Waves_house 282 = .ok (.aload_n 0, 1) := by decide +kernel
theorem d_Waves_house_283 : decode b_Waves_house 283 = .ok (.getfield 10, 3) := by decide +kernel
theorem d_Waves_house_286 : decode b_Waves_house 286 = .ok (.getfield 174, 3) := by decide +kernel
theorem d_Waves_house_289 : decode b_Waves_house 289 = .ok (.iload_n 1, 1) := by decide +kernel
theorem d_Waves_house_290 : decode b_Waves_house 290 = .ok (.invokevirtual 216, 3) := by decide +kernel
theorem d_Waves_house_293 : decode b_Waves_house 293 = .ok (.aload_n 0, 1) := by decide +kernel
theorem d_Waves_house_294 : decode b_Waves_house 294 = .ok (.getfield 10, 3) := by decide +kernel
theorem d_Waves_house_297 : decode b_Waves_house 297 = .ok (.getfield 182, 3) := by decide +kernel
theorem d_Waves_house_300 : decode b_Waves_house 300 = .ok (.iload_n 1, 1) := by decide +kernel
theorem d_Waves_house_301 : decode b_Waves_house 301 = .ok (.invokevirtual 216, 3) := by decide +kernel
theorem d_Waves_house_304 : decode b_Waves_house 304 = .ok (.iadd, 1) := by decide +kernel
theorem d_Waves_house_305 : decode b_Waves_house 305 = .ok (.ireturn, 1) := by decide +kernel
theorem d_Waves_house_306 : decode b_Waves_house 306 = .ok (.aload_n 0, 1) := by decide +kernel
theorem d_Waves_house_307 : decode b_Waves_house 307 = .ok (.getfield 10, 3) := by decide +kernel
theorem d_Waves_house_310 : decode b_Waves_house 310 = .ok (.getfield 68, 3) := by decide +kernel
theorem d_Waves_house_313 : decode b_Waves_house 313 = .ok (.getfield 219, 3) := by decide +kernel
theorem d_Waves_house_316 : decode b_Waves_house 316 = .ok (.iload_n 1, 1) := by decide +kernel
theorem d_Waves_house_317 : decode b_Waves_house 317 = .ok (.invokevirtual 123, 3) := by decide +kernel
theorem d_Waves_house_320 : decode b_Waves_house 320 = .ok (.ireturn, 1) := by decide +kernel
def F_Waves_house (a0 : Int32) (a1 : Int32) (σ : zSt) : Option (Int32) :=
  (F_Waves_checkHouse a0 σ).bind fun _ => (F_Waves_checkWithin a1 (0 : Int32) (14 : Int32) σ).bind fun _ => if a1 = (0 : Int32) then ((F_Row_get 0 4 a0 σ).bind fun r5 => some r5) else (if a1 = (1 : Int32) then ((F_Row_get 0 6 a0 σ).bind fun r8 => some r8) else (if a1 = (2 : Int32) then ((F_Row_get 0 8 a0 σ).bind fun r11 => some r11) else (if a1 = (3 : Int32) then ((F_Row_get 0 10 a0 σ).bind fun r14 => some r14) else (if a1 = (4 : Int32) then ((F_Row_get 0 12 a0 σ).bind fun r17 => some r17) else (if a1 = (5 : Int32) then ((F_Row_get 0 14 a0 σ).bind fun r20 => some r20) else (if a1 = (6 : Int32) then ((F_Row_get 0 16 a0 σ).bind fun r23 => some r23) else (if a1 = (7 : Int32) then ((F_Village_minuteOfDay 0 σ).bind fun r26 => (F_Homes_isQuiet 0 a0 r26 σ).bind fun r28 => if r28 = 0 then some (0 : Int32) else some (1 : Int32)) else (if a1 = (8 : Int32) then ((F_Row_get 0 18 a0 σ).bind fun r32 => some r32) else (if a1 = (9 : Int32) then ((F_Row_get 0 20 a0 σ).bind fun r35 => some r35) else (if a1 = (10 : Int32) then ((F_Tidings_newsKnownAt 0 a0 σ).bind fun r38 => some r38) else (if a1 = (11 : Int32) then ((F_Tidings_correctionsKnownAt 0 a0 σ).bind fun r41 => some r41) else (if a1 = (12 : Int32) then ((F_Tidings_uncorrectedAt 0 a0 σ).bind fun r44 => some r44) else (if a1 = (13 : Int32) then ((F_Entries_size 0 43 a0 σ).bind fun r47 => (F_Entries_size 0 48 a0 σ).bind fun r49 => some (r47 + r49)) else ((F_Row_get 0 22 a0 σ).bind fun r51 => some r51))))))))))))))
set_option maxHeartbeats 4000000 in
set_option maxRecDepth 100000 in
theorem c_Waves_house {l : Launch} {G : zLA} (hx : zxl G) {a0 : Int32} {a1 : Int32} {σ : zSt} {r : Int32} (hf : F_Waves_house a0 a1 σ = some r) : zM l G y_Waves_house (zws y_Waves_house b_Waves_house 3 (some .int)) rm_Waves_house [.ref (zad G 4 70), .int a0, .int a1] σ (some (.int r)) σ := by
  refine z_ofM (own := "VillageWaves") (lv := [(0, .ref (zad G 4 70)), (1, .int a0), (2, .int a1)]) (by decide +kernel) rfl rfl (Nat.le_of_ble_eq_true rfl) (fun p e s m args below meth c C => ?_)
  rw [F_Waves_house] at hf
  refine z_aload_n C d_Waves_house_0 0 rfl rfl ?_
  refine z_iload_n C d_Waves_house_1 1 rfl rfl ?_
  obtain ⟨_, h1, hf⟩ := bd_s hf
  refine z_cVv C kl_Waves_93 rfl (c_Waves_checkHouse hx h1) (zx4 hx 70 rfl) rfl rfl rfl (Nat.le_of_ble_eq_true rfl) ⟨(Nat.le_of_ble_eq_true rfl), (Nat.le_of_ble_eq_true rfl)⟩ ⟨(Nat.le_of_ble_eq_true rfl), (Nat.le_of_ble_eq_true rfl)⟩ d_Waves_house_2 ?_
  refine z_iload_n C d_Waves_house_5 2 rfl rfl ?_
  refine z_iconst C d_Waves_house_6 zki_0 ?_
  refine z_bipush C d_Waves_house_7 zkb_14 ?_
  obtain ⟨_, h2, hf⟩ := bd_s hf
  refine z_cSv C kl_Waves_56 (c_Waves_checkWithin h2) rfl rfl (Nat.le_of_ble_eq_true rfl) ⟨(Nat.le_of_ble_eq_true rfl), (Nat.le_of_ble_eq_true rfl)⟩ ⟨(Nat.le_of_ble_eq_true rfl), (Nat.le_of_ble_eq_true rfl)⟩ d_Waves_house_9 ?_
  refine z_iload_n C d_Waves_house_12 2 rfl rfl ?_
  by_cases h3 : a1 = (0 : Int32)
  · have hf := iff_t hf h3
    refine z_tin (off := 71) (tgt := 84) C d_Waves_house_13 (by rw [h3]; decide) (by rw [h3]; decide) (by rw [h3]; rfl) rfl ?_
    refine z_aload_n C d_Waves_house_84 0 rfl rfl ?_
    refine gf_Waves_10 C (zx4 hx 70 rfl) rfl rfl d_Waves_house_85 ?_
    refine gf_Waves_68 C (zlv (zxv hx 0 rfl) 0 rfl) rfl rfl d_Waves_house_88 ?_
    refine gf_Waves_185 C (zlv (zxv hx 0 rfl) 3 rfl) rfl rfl d_Waves_house_91 ?_
    refine z_iload_n C d_Waves_house_94 1 rfl rfl ?_
    obtain ⟨r5, h4, hf⟩ := bd_s hf
    refine z_cVi C kl_Waves_123 rfl (c_Row_get (zrow_v (zxv hx 0 rfl) 4 rfl) h4) (zlv (zxv hx 0 rfl) 4 rfl) rfl rfl rfl (Nat.le_of_ble_eq_true rfl) ⟨(Nat.le_of_ble_eq_true rfl), (Nat.le_of_ble_eq_true rfl)⟩ ⟨(Nat.le_of_ble_eq_true rfl), (Nat.le_of_ble_eq_true rfl)⟩ d_Waves_house_95 ?_
    cases hf
    exact z_iret C rfl (Nat.le_of_ble_eq_true rfl) (Nat.le_of_ble_eq_true rfl) d_Waves_house_98
  · have hf := iff_f hf h3
    by_cases h6 : a1 = (1 : Int32)
    · have hf := iff_t hf h6
      refine z_tin (off := 86) (tgt := 99) C d_Waves_house_13 (by rw [h6]; decide) (by rw [h6]; decide) (by rw [h6]; rfl) rfl ?_
      refine z_aload_n C d_Waves_house_99 0 rfl rfl ?_
      refine gf_Waves_10 C (zx4 hx 70 rfl) rfl rfl d_Waves_house_100 ?_
      refine gf_Waves_68 C (zlv (zxv hx 0 rfl) 0 rfl) rfl rfl d_Waves_house_103 ?_
      refine gf_Waves_188 C (zlv (zxv hx 0 rfl) 3 rfl) rfl rfl d_Waves_house_106 ?_
      refine z_iload_n C d_Waves_house_109 1 rfl rfl ?_
      obtain ⟨r8, h7, hf⟩ := bd_s hf
      refine z_cVi C kl_Waves_123 rfl (c_Row_get (zrow_v (zxv hx 0 rfl) 6 rfl) h7) (zlv (zxv hx 0 rfl) 6 rfl) rfl rfl rfl (Nat.le_of_ble_eq_true rfl) ⟨(Nat.le_of_ble_eq_true rfl), (Nat.le_of_ble_eq_true rfl)⟩ ⟨(Nat.le_of_ble_eq_true rfl), (Nat.le_of_ble_eq_true rfl)⟩ d_Waves_house_110 ?_
      cases hf
      exact z_iret C rfl (Nat.le_of_ble_eq_true rfl) (Nat.le_of_ble_eq_true rfl) d_Waves_house_113
    · have hf := iff_f hf h6
      by_cases h9 : a1 = (2 : Int32)
      · have hf := iff_t hf h9
        refine z_tin (off := 101) (tgt := 114) C d_Waves_house_13 (by rw [h9]; decide) (by rw [h9]; decide) (by rw [h9]; rfl) rfl ?_
        refine z_aload_n C d_Waves_house_114 0 rfl rfl ?_
        refine gf_Waves_10 C (zx4 hx 70 rfl) rfl rfl d_Waves_house_115 ?_
        refine gf_Waves_68 C (zlv (zxv hx 0 rfl) 0 rfl) rfl rfl d_Waves_house_118 ?_
        refine gf_Waves_191 C (zlv (zxv hx 0 rfl) 3 rfl) rfl rfl d_Waves_house_121 ?_
        refine z_iload_n C d_Waves_house_124 1 rfl rfl ?_
        obtain ⟨r11, h10, hf⟩ := bd_s hf
        refine z_cVi C kl_Waves_123 rfl (c_Row_get (zrow_v (zxv hx 0 rfl) 8 rfl) h10) (zlv (zxv hx 0 rfl) 8 rfl) rfl rfl rfl (Nat.le_of_ble_eq_true rfl) ⟨(Nat.le_of_ble_eq_true rfl), (Nat.le_of_ble_eq_true rfl)⟩ ⟨(Nat.le_of_ble_eq_true rfl), (Nat.le_of_ble_eq_true rfl)⟩ d_Waves_house_125 ?_
        cases hf
        exact z_iret C rfl (Nat.le_of_ble_eq_true rfl) (Nat.le_of_ble_eq_true rfl) d_Waves_house_128
      · have hf := iff_f hf h9
        by_cases h12 : a1 = (3 : Int32)
        · have hf := iff_t hf h12
          refine z_tin (off := 116) (tgt := 129) C d_Waves_house_13 (by rw [h12]; decide) (by rw [h12]; decide) (by rw [h12]; rfl) rfl ?_
          refine z_aload_n C d_Waves_house_129 0 rfl rfl ?_
          refine gf_Waves_10 C (zx4 hx 70 rfl) rfl rfl d_Waves_house_130 ?_
          refine gf_Waves_68 C (zlv (zxv hx 0 rfl) 0 rfl) rfl rfl d_Waves_house_133 ?_
          refine gf_Waves_120 C (zlv (zxv hx 0 rfl) 3 rfl) rfl rfl d_Waves_house_136 ?_
          refine z_iload_n C d_Waves_house_139 1 rfl rfl ?_
          obtain ⟨r14, h13, hf⟩ := bd_s hf
          refine z_cVi C kl_Waves_123 rfl (c_Row_get (zrow_v (zxv hx 0 rfl) 10 rfl) h13) (zlv (zxv hx 0 rfl) 10 rfl) rfl rfl rfl (Nat.le_of_ble_eq_true rfl) ⟨(Nat.le_of_ble_eq_true rfl), (Nat.le_of_ble_eq_true rfl)⟩ ⟨(Nat.le_of_ble_eq_true rfl), (Nat.le_of_ble_eq_true rfl)⟩ d_Waves_house_140 ?_
          cases hf
          exact z_iret C rfl (Nat.le_of_ble_eq_true rfl) (Nat.le_of_ble_eq_true rfl) d_Waves_house_143
        · have hf := iff_f hf h12
          by_cases h15 : a1 = (4 : Int32)
          · have hf := iff_t hf h15
            refine z_tin (off := 131) (tgt := 144) C d_Waves_house_13 (by rw [h15]; decide) (by rw [h15]; decide) (by rw [h15]; rfl) rfl ?_
            refine z_aload_n C d_Waves_house_144 0 rfl rfl ?_
            refine gf_Waves_10 C (zx4 hx 70 rfl) rfl rfl d_Waves_house_145 ?_
            refine gf_Waves_68 C (zlv (zxv hx 0 rfl) 0 rfl) rfl rfl d_Waves_house_148 ?_
            refine gf_Waves_194 C (zlv (zxv hx 0 rfl) 3 rfl) rfl rfl d_Waves_house_151 ?_
            refine z_iload_n C d_Waves_house_154 1 rfl rfl ?_
            obtain ⟨r17, h16, hf⟩ := bd_s hf
            refine z_cVi C kl_Waves_123 rfl (c_Row_get (zrow_v (zxv hx 0 rfl) 12 rfl) h16) (zlv (zxv hx 0 rfl) 12 rfl) rfl rfl rfl (Nat.le_of_ble_eq_true rfl) ⟨(Nat.le_of_ble_eq_true rfl), (Nat.le_of_ble_eq_true rfl)⟩ ⟨(Nat.le_of_ble_eq_true rfl), (Nat.le_of_ble_eq_true rfl)⟩ d_Waves_house_155 ?_
            cases hf
            exact z_iret C rfl (Nat.le_of_ble_eq_true rfl) (Nat.le_of_ble_eq_true rfl) d_Waves_house_158
          · have hf := iff_f hf h15
            by_cases h18 : a1 = (5 : Int32)
            · have hf := iff_t hf h18
              refine z_tin (off := 146) (tgt := 159) C d_Waves_house_13 (by rw [h18]; decide) (by rw [h18]; decide) (by rw [h18]; rfl) rfl ?_
              refine z_aload_n C d_Waves_house_159 0 rfl rfl ?_
              refine gf_Waves_10 C (zx4 hx 70 rfl) rfl rfl d_Waves_house_160 ?_
              refine gf_Waves_68 C (zlv (zxv hx 0 rfl) 0 rfl) rfl rfl d_Waves_house_163 ?_
              refine gf_Waves_104 C (zlv (zxv hx 0 rfl) 3 rfl) rfl rfl d_Waves_house_166 ?_
              refine z_iload_n C d_Waves_house_169 1 rfl rfl ?_
              obtain ⟨r20, h19, hf⟩ := bd_s hf
              refine z_cVi C kl_Waves_123 rfl (c_Row_get (zrow_v (zxv hx 0 rfl) 14 rfl) h19) (zlv (zxv hx 0 rfl) 14 rfl) rfl rfl rfl (Nat.le_of_ble_eq_true rfl) ⟨(Nat.le_of_ble_eq_true rfl), (Nat.le_of_ble_eq_true rfl)⟩ ⟨(Nat.le_of_ble_eq_true rfl), (Nat.le_of_ble_eq_true rfl)⟩ d_Waves_house_170 ?_
              cases hf
              exact z_iret C rfl (Nat.le_of_ble_eq_true rfl) (Nat.le_of_ble_eq_true rfl) d_Waves_house_173
            · have hf := iff_f hf h18
              by_cases h21 : a1 = (6 : Int32)
              · have hf := iff_t hf h21
                refine z_tin (off := 161) (tgt := 174) C d_Waves_house_13 (by rw [h21]; decide) (by rw [h21]; decide) (by rw [h21]; rfl) rfl ?_
                refine z_aload_n C d_Waves_house_174 0 rfl rfl ?_
                refine gf_Waves_10 C (zx4 hx 70 rfl) rfl rfl d_Waves_house_175 ?_
                refine gf_Waves_68 C (zlv (zxv hx 0 rfl) 0 rfl) rfl rfl d_Waves_house_178 ?_
                refine gf_Waves_114 C (zlv (zxv hx 0 rfl) 3 rfl) rfl rfl d_Waves_house_181 ?_
                refine z_iload_n C d_Waves_house_184 1 rfl rfl ?_
                obtain ⟨r23, h22, hf⟩ := bd_s hf
                refine z_cVi C kl_Waves_123 rfl (c_Row_get (zrow_v (zxv hx 0 rfl) 16 rfl) h22) (zlv (zxv hx 0 rfl) 16 rfl) rfl rfl rfl (Nat.le_of_ble_eq_true rfl) ⟨(Nat.le_of_ble_eq_true rfl), (Nat.le_of_ble_eq_true rfl)⟩ ⟨(Nat.le_of_ble_eq_true rfl), (Nat.le_of_ble_eq_true rfl)⟩ d_Waves_house_185 ?_
                cases hf
                exact z_iret C rfl (Nat.le_of_ble_eq_true rfl) (Nat.le_of_ble_eq_true rfl) d_Waves_house_188
              · have hf := iff_f hf h21
                by_cases h24 : a1 = (7 : Int32)
                · have hf := iff_t hf h24
                  refine z_tin (off := 176) (tgt := 189) C d_Waves_house_13 (by rw [h24]; decide) (by rw [h24]; decide) (by rw [h24]; rfl) rfl ?_
                  refine z_aload_n C d_Waves_house_189 0 rfl rfl ?_
                  refine gf_Waves_10 C (zx4 hx 70 rfl) rfl rfl d_Waves_house_190 ?_
                  refine gf_Waves_68 C (zlv (zxv hx 0 rfl) 0 rfl) rfl rfl d_Waves_house_193 ?_
                  refine z_iload_n C d_Waves_house_196 1 rfl rfl ?_
                  refine z_aload_n C d_Waves_house_197 0 rfl rfl ?_
                  refine gf_Waves_10 C (zx4 hx 70 rfl) rfl rfl d_Waves_house_198 ?_
                  obtain ⟨r26, h25, hf⟩ := bd_s hf
                  refine z_cVi C kl_Waves_164 rfl (c_Village_minuteOfDay (zxv hx 0 rfl) h25) (zlv (zxv hx 0 rfl) 0 rfl) rfl rfl rfl (Nat.le_of_ble_eq_true rfl) ⟨(Nat.le_of_ble_eq_true rfl), (Nat.le_of_ble_eq_true rfl)⟩ ⟨(Nat.le_of_ble_eq_true rfl), (Nat.le_of_ble_eq_true rfl)⟩ d_Waves_house_201 ?_
                  obtain ⟨r28, h27, hf⟩ := bd_s hf
                  refine z_cVi C kl_Waves_197 rfl (c_Homes_isQuiet (zxv hx 0 rfl) h27) (zlv (zxv hx 0 rfl) 3 rfl) rfl rfl rfl (Nat.le_of_ble_eq_true rfl) ⟨(Nat.le_of_ble_eq_true rfl), (Nat.le_of_ble_eq_true rfl)⟩ ⟨(Nat.le_of_ble_eq_true rfl), (Nat.le_of_ble_eq_true rfl)⟩ d_Waves_house_204 ?_
                  refine z_if_eq (tgt := 214) C d_Waves_house_207 rfl (fun h29 => ?_) (fun h29 => ?_)
                  · have hf := iff_t hf h29
                    refine z_iconst C d_Waves_house_214 zki_0 ?_
                    cases hf
                    exact z_iret C rfl (Nat.le_of_ble_eq_true rfl) (Nat.le_of_ble_eq_true rfl) d_Waves_house_215
                  · have hf := iff_f hf h29
                    refine z_iconst C d_Waves_house_210 zki_1 ?_
                    refine z_goto (tgt := 215) C d_Waves_house_211 rfl ?_
                    cases hf
                    exact z_iret C rfl (Nat.le_of_ble_eq_true rfl) (Nat.le_of_ble_eq_true rfl) d_Waves_house_215
                · have hf := iff_f hf h24
                  by_cases h30 : a1 = (8 : Int32)
                  · have hf := iff_t hf h30
                    refine z_tin (off := 203) (tgt := 216) C d_Waves_house_13 (by rw [h30]; decide) (by rw [h30]; decide) (by rw [h30]; rfl) rfl ?_
                    refine z_aload_n C d_Waves_house_216 0 rfl rfl ?_
                    refine gf_Waves_10 C (zx4 hx 70 rfl) rfl rfl d_Waves_house_217 ?_
                    refine gf_Waves_68 C (zlv (zxv hx 0 rfl) 0 rfl) rfl rfl d_Waves_house_220 ?_
                    refine gf_Waves_201 C (zlv (zxv hx 0 rfl) 3 rfl) rfl rfl d_Waves_house_223 ?_
                    refine z_iload_n C d_Waves_house_226 1 rfl rfl ?_
                    obtain ⟨r32, h31, hf⟩ := bd_s hf
                    refine z_cVi C kl_Waves_123 rfl (c_Row_get (zrow_v (zxv hx 0 rfl) 18 rfl) h31) (zlv (zxv hx 0 rfl) 18 rfl) rfl rfl rfl (Nat.le_of_ble_eq_true rfl) ⟨(Nat.le_of_ble_eq_true rfl), (Nat.le_of_ble_eq_true rfl)⟩ ⟨(Nat.le_of_ble_eq_true rfl), (Nat.le_of_ble_eq_true rfl)⟩ d_Waves_house_227 ?_
                    cases hf
                    exact z_iret C rfl (Nat.le_of_ble_eq_true rfl) (Nat.le_of_ble_eq_true rfl) d_Waves_house_230
                  · have hf := iff_f hf h30
                    by_cases h33 : a1 = (9 : Int32)
                    · have hf := iff_t hf h33
                      refine z_tin (off := 218) (tgt := 231) C d_Waves_house_13 (by rw [h33]; decide) (by rw [h33]; decide) (by rw [h33]; rfl) rfl ?_
                      refine z_aload_n C d_Waves_house_231 0 rfl rfl ?_
                      refine gf_Waves_10 C (zx4 hx 70 rfl) rfl rfl d_Waves_house_232 ?_
                      refine gf_Waves_68 C (zlv (zxv hx 0 rfl) 0 rfl) rfl rfl d_Waves_house_235 ?_
                      refine gf_Waves_204 C (zlv (zxv hx 0 rfl) 3 rfl) rfl rfl d_Waves_house_238 ?_
                      refine z_iload_n C d_Waves_house_241 1 rfl rfl ?_
                      obtain ⟨r35, h34, hf⟩ := bd_s hf
                      refine z_cVi C kl_Waves_123 rfl (c_Row_get (zrow_v (zxv hx 0 rfl) 20 rfl) h34) (zlv (zxv hx 0 rfl) 20 rfl) rfl rfl rfl (Nat.le_of_ble_eq_true rfl) ⟨(Nat.le_of_ble_eq_true rfl), (Nat.le_of_ble_eq_true rfl)⟩ ⟨(Nat.le_of_ble_eq_true rfl), (Nat.le_of_ble_eq_true rfl)⟩ d_Waves_house_242 ?_
                      cases hf
                      exact z_iret C rfl (Nat.le_of_ble_eq_true rfl) (Nat.le_of_ble_eq_true rfl) d_Waves_house_245
                    · have hf := iff_f hf h33
                      by_cases h36 : a1 = (10 : Int32)
                      · have hf := iff_t hf h36
                        refine z_tin (off := 233) (tgt := 246) C d_Waves_house_13 (by rw [h36]; decide) (by rw [h36]; decide) (by rw [h36]; rfl) rfl ?_
                        refine z_aload_n C d_Waves_house_246 0 rfl rfl ?_
                        refine gf_Waves_10 C (zx4 hx 70 rfl) rfl rfl d_Waves_house_247 ?_
                        refine gf_Waves_145 C (zlv (zxv hx 0 rfl) 0 rfl) rfl rfl d_Waves_house_250 ?_
                        refine z_iload_n C d_Waves_house_253 1 rfl rfl ?_
                        obtain ⟨r38, h37, hf⟩ := bd_s hf
                        refine z_cVi C kl_Waves_207 rfl (c_Tidings_newsKnownAt (zxv hx 0 rfl) h37) (zlv (zxv hx 0 rfl) 24 rfl) rfl rfl rfl (Nat.le_of_ble_eq_true rfl) ⟨(Nat.le_of_ble_eq_true rfl), (Nat.le_of_ble_eq_true rfl)⟩ ⟨(Nat.le_of_ble_eq_true rfl), (Nat.le_of_ble_eq_true rfl)⟩ d_Waves_house_254 ?_
                        cases hf
                        exact z_iret C rfl (Nat.le_of_ble_eq_true rfl) (Nat.le_of_ble_eq_true rfl) d_Waves_house_257
                      · have hf := iff_f hf h36
                        by_cases h39 : a1 = (11 : Int32)
                        · have hf := iff_t hf h39
                          refine z_tin (off := 245) (tgt := 258) C d_Waves_house_13 (by rw [h39]; decide) (by rw [h39]; decide) (by rw [h39]; rfl) rfl ?_
                          refine z_aload_n C d_Waves_house_258 0 rfl rfl ?_
                          refine gf_Waves_10 C (zx4 hx 70 rfl) rfl rfl d_Waves_house_259 ?_
                          refine gf_Waves_145 C (zlv (zxv hx 0 rfl) 0 rfl) rfl rfl d_Waves_house_262 ?_
                          refine z_iload_n C d_Waves_house_265 1 rfl rfl ?_
                          obtain ⟨r41, h40, hf⟩ := bd_s hf
                          refine z_cVi C kl_Waves_210 rfl (c_Tidings_correctionsKnownAt (zxv hx 0 rfl) h40) (zlv (zxv hx 0 rfl) 24 rfl) rfl rfl rfl (Nat.le_of_ble_eq_true rfl) ⟨(Nat.le_of_ble_eq_true rfl), (Nat.le_of_ble_eq_true rfl)⟩ ⟨(Nat.le_of_ble_eq_true rfl), (Nat.le_of_ble_eq_true rfl)⟩ d_Waves_house_266 ?_
                          cases hf
                          exact z_iret C rfl (Nat.le_of_ble_eq_true rfl) (Nat.le_of_ble_eq_true rfl) d_Waves_house_269
                        · have hf := iff_f hf h39
                          by_cases h42 : a1 = (12 : Int32)
                          · have hf := iff_t hf h42
                            refine z_tin (off := 257) (tgt := 270) C d_Waves_house_13 (by rw [h42]; decide) (by rw [h42]; decide) (by rw [h42]; rfl) rfl ?_
                            refine z_aload_n C d_Waves_house_270 0 rfl rfl ?_
                            refine gf_Waves_10 C (zx4 hx 70 rfl) rfl rfl d_Waves_house_271 ?_
                            refine gf_Waves_145 C (zlv (zxv hx 0 rfl) 0 rfl) rfl rfl d_Waves_house_274 ?_
                            refine z_iload_n C d_Waves_house_277 1 rfl rfl ?_
                            obtain ⟨r44, h43, hf⟩ := bd_s hf
                            refine z_cVi C kl_Waves_213 rfl (c_Tidings_uncorrectedAt (zxv hx 0 rfl) h43) (zlv (zxv hx 0 rfl) 24 rfl) rfl rfl rfl (Nat.le_of_ble_eq_true rfl) ⟨(Nat.le_of_ble_eq_true rfl), (Nat.le_of_ble_eq_true rfl)⟩ ⟨(Nat.le_of_ble_eq_true rfl), (Nat.le_of_ble_eq_true rfl)⟩ d_Waves_house_278 ?_
                            cases hf
                            exact z_iret C rfl (Nat.le_of_ble_eq_true rfl) (Nat.le_of_ble_eq_true rfl) d_Waves_house_281
                          · have hf := iff_f hf h42
                            by_cases h45 : a1 = (13 : Int32)
                            · have hf := iff_t hf h45
                              refine z_tin (off := 269) (tgt := 282) C d_Waves_house_13 (by rw [h45]; decide) (by rw [h45]; decide) (by rw [h45]; rfl) rfl ?_
                              refine z_aload_n C d_Waves_house_282 0 rfl rfl ?_
                              refine gf_Waves_10 C (zx4 hx 70 rfl) rfl rfl d_Waves_house_283 ?_
                              refine gf_Waves_174 C (zlv (zxv hx 0 rfl) 0 rfl) rfl rfl d_Waves_house_286 ?_
                              refine z_iload_n C d_Waves_house_289 1 rfl rfl ?_
                              obtain ⟨r47, h46, hf⟩ := bd_s hf
                              refine z_cVi C kl_Waves_216 rfl (c_Entries_size (zxv hx 0 rfl) (Or.inl rfl) h46) (zlv (zxv hx 0 rfl) 43 rfl) rfl rfl rfl (Nat.le_of_ble_eq_true rfl) ⟨(Nat.le_of_ble_eq_true rfl), (Nat.le_of_ble_eq_true rfl)⟩ ⟨(Nat.le_of_ble_eq_true rfl), (Nat.le_of_ble_eq_true rfl)⟩ d_Waves_house_290 ?_
                              refine z_aload_n C d_Waves_house_293 0 rfl rfl ?_
                              refine gf_Waves_10 C (zx4 hx 70 rfl) rfl rfl d_Waves_house_294 ?_
                              refine gf_Waves_182 C (zlv (zxv hx 0 rfl) 0 rfl) rfl rfl d_Waves_house_297 ?_
                              refine z_iload_n C d_Waves_house_300 1 rfl rfl ?_
                              obtain ⟨r49, h48, hf⟩ := bd_s hf
                              refine z_cVi C kl_Waves_216 rfl (c_Entries_size (zxv hx 0 rfl) (Or.inr rfl) h48) (zlv (zxv hx 0 rfl) 48 rfl) rfl rfl rfl (Nat.le_of_ble_eq_true rfl) ⟨(Nat.le_of_ble_eq_true rfl), (Nat.le_of_ble_eq_true rfl)⟩ ⟨(Nat.le_of_ble_eq_true rfl), (Nat.le_of_ble_eq_true rfl)⟩ d_Waves_house_301 ?_
                              refine z_iadd C d_Waves_house_304 ?_
                              cases hf
                              exact z_iret C rfl (Nat.le_of_ble_eq_true rfl) (Nat.le_of_ble_eq_true rfl) d_Waves_house_305
                            · have hf := iff_f hf h45
                              refine z_tout (tgt := 306) C d_Waves_house_13 (ztab_0_13 h3 h6 h9 h12 h15 h18 h21 h24 h30 h33 h36 h39 h42 h45) rfl ?_
                              refine z_aload_n C d_Waves_house_306 0 rfl rfl ?_
                              refine gf_Waves_10 C (zx4 hx 70 rfl) rfl rfl d_Waves_house_307 ?_
                              refine gf_Waves_68 C (zlv (zxv hx 0 rfl) 0 rfl) rfl rfl d_Waves_house_310 ?_
                              refine gf_Waves_219 C (zlv (zxv hx 0 rfl) 3 rfl) rfl rfl d_Waves_house_313 ?_
                              refine z_iload_n C d_Waves_house_316 1 rfl rfl ?_
                              obtain ⟨r51, h50, hf⟩ := bd_s hf
                              refine z_cVi C kl_Waves_123 rfl (c_Row_get (zrow_v (zxv hx 0 rfl) 22 rfl) h50) (zlv (zxv hx 0 rfl) 22 rfl) rfl rfl rfl (Nat.le_of_ble_eq_true rfl) ⟨(Nat.le_of_ble_eq_true rfl), (Nat.le_of_ble_eq_true rfl)⟩ ⟨(Nat.le_of_ble_eq_true rfl), (Nat.le_of_ble_eq_true rfl)⟩ d_Waves_house_317 ?_
                              cases hf
                              exact z_iret C rfl (Nat.le_of_ble_eq_true rfl) (Nat.le_of_ble_eq_true rfl) d_Waves_house_320
abbrev rm_Waves_correctionEntryFact : Room := { frames := 3, cells := 0, slots := 0, locals := 69 }
theorem d_Waves_correctionEntryFact_0 : decode b_Waves_correctionEntryFact 0 = .ok (.iload_n 3, 1) := by decide +kernel
theorem d_Waves_correctionEntryFact_1 : decode b_Waves_correctionEntryFact 1 = .ok (.tableswitch 50 0 3 #[31, 33, 35, 48], 31) := by decide +kernel
theorem d_Waves_correctionEntryFact_32 : decode b_Waves_correctionEntryFact 32 = .ok (.iconst 1, 1) := by decide +kernel
theorem d_Waves_correctionEntryFact_33 : decode b_Waves_correctionEntryFact 33 = .ok (.ireturn, 1) := by decide +kernel
theorem d_Waves_correctionEntryFact_34 : decode b_Waves_correctionEntryFact 34 = .ok (.iload_n 2, 1) := by decide +kernel
theorem d_Waves_correctionEntryFact_35 : decode b_Waves_correctionEntryFact 35 = .ok (.ireturn, 1) := by decide +kernel
theorem d_Waves_correctionEntryFact_36 : decode b_Waves_correctionEntryFact 36 = .ok (.aload_n 0, 1) := by decide +kernel
theorem d_Waves_correctionEntryFact_37 : decode b_Waves_correctionEntryFact 37 = .ok (.getfield 10, 3) := by decide +kernel
theorem d_Waves_correctionEntryFact_40 : decode b_Waves_correctionEntryFact 40 = .ok (.getfield 182, 3) := by decide +kernel
theorem d_Waves_correctionEntryFact_43 : decode b_Waves_correctionEntryFact 43 = .ok (.iload_n 1, 1) := by decide +kernel
theorem d_Waves_correctionEntryFact_44 : decode b_Waves_correctionEntryFact 44 = .ok (.iload_n 2, 1) := by decide +kernel
theorem d_Waves_correctionEntryFact_45 : decode b_Waves_correctionEntryFact 45 = .ok (.invokevirtual 357, 3) := by decide +kernel
theorem d_Waves_correctionEntryFact_48 : decode b_Waves_correctionEntryFact 48 = .ok (.ireturn, 1) := by decide +kernel
theorem d_Waves_correctionEntryFact_49 : decode b_Waves_correctionEntryFact 49 = .ok (.iconst (-1), 1) := by decide +kernel
theorem d_Waves_correctionEntryFact_50 : decode b_Waves_correctionEntryFact 50 = .ok (.ireturn, 1) := by decide +kernel
theorem d_Waves_correctionEntryFact_51 : decode b_Waves_correctionEntryFact 51 = .ok (.aload_n 0, 1) := by decide +kernel
theorem d_Waves_correctionEntryFact_52 : decode b_Waves_correctionEntryFact 52 = .ok (.getfield 10, 3) := by decide +kernel
theorem d_Waves_correctionEntryFact_55 : decode b_Waves_correctionEntryFact 55 = .ok (.iload_n 1, 1) := by decide +kernel
theorem d_Waves_correctionEntryFact_56 : decode b_Waves_correctionEntryFact 56 = .ok (.invokevirtual 359, 3) := by decide +kernel
theorem d_Waves_correctionEntryFact_59 : decode b_Waves_correctionEntryFact 59 = .ok (.iload_n 2, 1) := by decide +kernel
theorem d_Waves_correctionEntryFact_60 : decode b_Waves_correctionEntryFact 60 = .ok (.invokestatic 289, 3) := by decide +kernel
theorem d_Waves_correctionEntryFact_63 : decode b_Waves_correctionEntryFact 63 = .ok (.ifCond .eq 7, 3) := by decide +kernel
theorem d_Waves_correctionEntryFact_66 : decode b_Waves_correctionEntryFact 66 = .ok (.iconst 1, 1) := by decide +kernel
theorem d_Waves_correctionEntryFact_67 : decode b_Waves_correctionEntryFact 67 = .ok (.goto 4, 3) := by decide +kernel
theorem d_Waves_correctionEntryFact_70 : decode b_Waves_correctionEntryFact 70 = .ok (.iconst 0, 1) := by decide +kernel
theorem d_Waves_correctionEntryFact_71 : decode b_Waves_correctionEntryFact 71 = .ok (.ireturn, 1) := by decide +kernel
def F_Waves_correctionEntryFact (a0 : Int32) (a1 : Int32) (a2 : Int32) (σ : zSt) : Option (Int32) :=
  if a2 = (0 : Int32) then some (1 : Int32) else (if a2 = (1 : Int32) then some a1 else (if a2 = (2 : Int32) then ((F_Entries_time 0 48 a0 a1 σ).bind fun r5 => some r5) else (if a2 = (3 : Int32) then some (-1 : Int32) else ((F_Village_sendableCorrections 0 a0 σ).bind fun r8 => (F_Waves_contains r8 a1 σ).bind fun r10 => if r10 = 0 then some (0 : Int32) else some (1 : Int32)))))
set_option maxHeartbeats 4000000 in
set_option maxRecDepth 100000 in
theorem c_Waves_correctionEntryFact {l : Launch} {G : zLA} (hx : zxl G) {a0 : Int32} {a1 : Int32} {a2 : Int32} {σ : zSt} {r : Int32} (hf : F_Waves_correctionEntryFact a0 a1 a2 σ = some r) : zM l G y_Waves_correctionEntryFact (zws y_Waves_correctionEntryFact b_Waves_correctionEntryFact 4 (some .int)) rm_Waves_correctionEntryFact [.ref (zad G 4 70), .int a0, .int a1, .int a2] σ (some (.int r)) σ := by
  refine z_ofM (own := "VillageWaves") (lv := [(0, .ref (zad G 4 70)), (1, .int a0), (2, .int a1), (3, .int a2)]) (by decide +kernel) rfl rfl (Nat.le_of_ble_eq_true rfl) (fun p e s m args below meth c C => ?_)
  rw [F_Waves_correctionEntryFact] at hf
  refine z_iload_n C d_Waves_correctionEntryFact_0 3 rfl rfl ?_
  by_cases h1 : a2 = (0 : Int32)
  · have hf := iff_t hf h1
    refine z_tin (off := 31) (tgt := 32) C d_Waves_correctionEntryFact_1 (by rw [h1]; decide) (by rw [h1]; decide) (by rw [h1]; rfl) rfl ?_
    refine z_iconst C d_Waves_correctionEntryFact_32 zki_1 ?_
    cases hf
    exact z_iret C rfl (Nat.le_of_ble_eq_true rfl) (Nat.le_of_ble_eq_true rfl) d_Waves_correctionEntryFact_33
  · have hf := iff_f hf h1
    by_cases h2 : a2 = (1 : Int32)
    · have hf := iff_t hf h2
      refine z_tin (off := 33) (tgt := 34) C d_Waves_correctionEntryFact_1 (by rw [h2]; decide) (by rw [h2]; decide) (by rw [h2]; rfl) rfl ?_
      refine z_iload_n C d_Waves_correctionEntryFact_34 2 rfl rfl ?_
      cases hf
      exact z_iret C rfl (Nat.le_of_ble_eq_true rfl) (Nat.le_of_ble_eq_true rfl) d_Waves_correctionEntryFact_35
    · have hf := iff_f hf h2
      by_cases h3 : a2 = (2 : Int32)
      · have hf := iff_t hf h3
        refine z_tin (off := 35) (tgt := 36) C d_Waves_correctionEntryFact_1 (by rw [h3]; decide) (by rw [h3]; decide) (by rw [h3]; rfl) rfl ?_
        refine z_aload_n C d_Waves_correctionEntryFact_36 0 rfl rfl ?_
        refine gf_Waves_10 C (zx4 hx 70 rfl) rfl rfl d_Waves_correctionEntryFact_37 ?_
        refine gf_Waves_182 C (zlv (zxv hx 0 rfl) 0 rfl) rfl rfl d_Waves_correctionEntryFact_40 ?_
        refine z_iload_n C d_Waves_correctionEntryFact_43 1 rfl rfl ?_
        refine z_iload_n C d_Waves_correctionEntryFact_44 2 rfl rfl ?_
        obtain ⟨r5, h4, hf⟩ := bd_s hf
        refine z_cVi C kl_Waves_357 rfl (c_Entries_time (zxv hx 0 rfl) (Or.inr rfl) h4) (zlv (zxv hx 0 rfl) 48 rfl) rfl rfl rfl (Nat.le_of_ble_eq_true rfl) ⟨(Nat.le_of_ble_eq_true rfl), (Nat.le_of_ble_eq_true rfl)⟩ ⟨(Nat.le_of_ble_eq_true rfl), (Nat.le_of_ble_eq_true rfl)⟩ d_Waves_correctionEntryFact_45 ?_
        cases hf
        exact z_iret C rfl (Nat.le_of_ble_eq_true rfl) (Nat.le_of_ble_eq_true rfl) d_Waves_correctionEntryFact_48
      · have hf := iff_f hf h3
        by_cases h6 : a2 = (3 : Int32)
        · have hf := iff_t hf h6
          refine z_tin (off := 48) (tgt := 49) C d_Waves_correctionEntryFact_1 (by rw [h6]; decide) (by rw [h6]; decide) (by rw [h6]; rfl) rfl ?_
          refine z_iconst C d_Waves_correctionEntryFact_49 zki_m1 ?_
          cases hf
          exact z_iret C rfl (Nat.le_of_ble_eq_true rfl) (Nat.le_of_ble_eq_true rfl) d_Waves_correctionEntryFact_50
        · have hf := iff_f hf h6
          refine z_tout (tgt := 51) C d_Waves_correctionEntryFact_1 (ztab_0_3 h1 h2 h3 h6) rfl ?_
          refine z_aload_n C d_Waves_correctionEntryFact_51 0 rfl rfl ?_
          refine gf_Waves_10 C (zx4 hx 70 rfl) rfl rfl d_Waves_correctionEntryFact_52 ?_
          refine z_iload_n C d_Waves_correctionEntryFact_55 1 rfl rfl ?_
          obtain ⟨r8, h7, hf⟩ := bd_s hf
          refine z_cVi C kl_Waves_359 rfl (c_Village_sendableCorrections (zxv hx 0 rfl) h7) (zlv (zxv hx 0 rfl) 0 rfl) rfl rfl rfl (Nat.le_of_ble_eq_true rfl) ⟨(Nat.le_of_ble_eq_true rfl), (Nat.le_of_ble_eq_true rfl)⟩ ⟨(Nat.le_of_ble_eq_true rfl), (Nat.le_of_ble_eq_true rfl)⟩ d_Waves_correctionEntryFact_56 ?_
          refine z_iload_n C d_Waves_correctionEntryFact_59 2 rfl rfl ?_
          obtain ⟨r10, h9, hf⟩ := bd_s hf
          refine z_cSi C kl_Waves_289 (c_Waves_contains h9) rfl rfl (Nat.le_of_ble_eq_true rfl) ⟨(Nat.le_of_ble_eq_true rfl), (Nat.le_of_ble_eq_true rfl)⟩ ⟨(Nat.le_of_ble_eq_true rfl), (Nat.le_of_ble_eq_true rfl)⟩ d_Waves_correctionEntryFact_60 ?_
          refine z_if_eq (tgt := 70) C d_Waves_correctionEntryFact_63 rfl (fun h11 => ?_) (fun h11 => ?_)
          · have hf := iff_t hf h11
            refine z_iconst C d_Waves_correctionEntryFact_70 zki_0 ?_
            cases hf
            exact z_iret C rfl (Nat.le_of_ble_eq_true rfl) (Nat.le_of_ble_eq_true rfl) d_Waves_correctionEntryFact_71
          · have hf := iff_f hf h11
            refine z_iconst C d_Waves_correctionEntryFact_66 zki_1 ?_
            refine z_goto (tgt := 71) C d_Waves_correctionEntryFact_67 rfl ?_
            cases hf
            exact z_iret C rfl (Nat.le_of_ble_eq_true rfl) (Nat.le_of_ble_eq_true rfl) d_Waves_correctionEntryFact_71
abbrev rm_Waves_newsEntryFact : Room := { frames := 2, cells := 0, slots := 0, locals := 43 }
theorem d_Waves_newsEntryFact_0 : decode b_Waves_newsEntryFact 0 = .ok (.iload_n 3, 1) := by decide +kernel
theorem d_Waves_newsEntryFact_1 : decode b_Waves_newsEntryFact 1 = .ok (.tableswitch 64 0 3 #[31, 33, 35, 48], 31) := by decide +kernel
theorem d_Waves_newsEntryFact_32 : decode b_Waves_newsEntryFact 32 = .ok (.iconst 0, 1) := by decide +kernel
theorem d_Waves_newsEntryFact_33 : decode b_Waves_newsEntryFact 33 = .ok (.ireturn, 1) := by decide +kernel
theorem d_Waves_newsEntryFact_34 : decode b_Waves_newsEntryFact 34 = .ok (.iload_n 2, 1) := by decide +kernel
theorem d_Waves_newsEntryFact_35 : decode b_Waves_newsEntryFact 35 = .ok (.ireturn, 1) := by decide +kernel
theorem d_Waves_newsEntryFact_36 : decode b_Waves_newsEntryFact 36 = .ok (.aload_n 0, 1) := by decide +kernel
theorem d_Waves_newsEntryFact_37 : decode b_Waves_newsEntryFact 37 = .ok (.getfield 10, 3) := by decide +kernel
theorem d_Waves_newsEntryFact_40 : decode b_Waves_newsEntryFact 40 = .ok (.getfield 174, 3) := by decide +kernel
theorem d_Waves_newsEntryFact_43 : decode b_Waves_newsEntryFact 43 = .ok (.iload_n 1, 1) := by decide +kernel
theorem d_Waves_newsEntryFact_44 : decode b_Waves_newsEntryFact 44 = .ok (.iload_n 2, 1) := by decide +kernel
theorem d_Waves_newsEntryFact_45 : decode b_Waves_newsEntryFact 45 = .ok (.invokevirtual 357, 3) := by decide +kernel
theorem d_Waves_newsEntryFact_48 : decode b_Waves_newsEntryFact 48 = .ok (.ireturn, 1) := by decide +kernel
theorem d_Waves_newsEntryFact_49 : decode b_Waves_newsEntryFact 49 = .ok (.aload_n 0, 1) := by decide +kernel
theorem d_Waves_newsEntryFact_50 : decode b_Waves_newsEntryFact 50 = .ok (.getfield 10, 3) := by decide +kernel
theorem d_Waves_newsEntryFact_53 : decode b_Waves_newsEntryFact 53 = .ok (.getfield 362, 3) := by decide +kernel
theorem d_Waves_newsEntryFact_56 : decode b_Waves_newsEntryFact 56 = .ok (.iload_n 1, 1) := by decide +kernel
theorem d_Waves_newsEntryFact_57 : decode b_Waves_newsEntryFact 57 = .ok (.iload_n 2, 1) := by decide +kernel
theorem d_Waves_newsEntryFact_58 : decode b_Waves_newsEntryFact 58 = .ok (.invokestatic 274, 3) := by decide +kernel
theorem d_Waves_newsEntryFact_61 : decode b_Waves_newsEntryFact 61 = .ok (.invokevirtual 123, 3) := by decide +kernel
theorem d_Waves_newsEntryFact_64 : decode b_Waves_newsEntryFact 64 = .ok (.ireturn, 1) := by decide +kernel
theorem d_Waves_newsEntryFact_65 : decode b_Waves_newsEntryFact 65 = .ok (.iconst 1, 1) := by decide +kernel
theorem d_Waves_newsEntryFact_66 : decode b_Waves_newsEntryFact 66 = .ok (.ireturn, 1) := by decide +kernel
def F_Waves_newsEntryFact (a0 : Int32) (a1 : Int32) (a2 : Int32) (σ : zSt) : Option (Int32) :=
  if a2 = (0 : Int32) then some (0 : Int32) else (if a2 = (1 : Int32) then some a1 else (if a2 = (2 : Int32) then ((F_Entries_time 0 43 a0 a1 σ).bind fun r5 => some r5) else (if a2 = (3 : Int32) then ((F_Waves_cell a0 a1 σ).bind fun r8 => (F_Row_get 0 53 r8 σ).bind fun r10 => some r10) else some (1 : Int32))))
set_option maxHeartbeats 4000000 in
set_option maxRecDepth 100000 in
theorem c_Waves_newsEntryFact {l : Launch} {G : zLA} (hx : zxl G) {a0 : Int32} {a1 : Int32} {a2 : Int32} {σ : zSt} {r : Int32} (hf : F_Waves_newsEntryFact a0 a1 a2 σ = some r) : zM l G y_Waves_newsEntryFact (zws y_Waves_newsEntryFact b_Waves_newsEntryFact 4 (some .int)) rm_Waves_newsEntryFact [.ref (zad G 4 70), .int a0, .int a1, .int a2] σ (some (.int r)) σ := by
  refine z_ofM (own := "VillageWaves") (lv := [(0, .ref (zad G 4 70)), (1, .int a0), (2, .int a1), (3, .int a2)]) (by decide +kernel) rfl rfl (Nat.le_of_ble_eq_true rfl) (fun p e s m args below meth c C => ?_)
  rw [F_Waves_newsEntryFact] at hf
  refine z_iload_n C d_Waves_newsEntryFact_0 3 rfl rfl ?_
  by_cases h1 : a2 = (0 : Int32)
  · have hf := iff_t hf h1
    refine z_tin (off := 31) (tgt := 32) C d_Waves_newsEntryFact_1 (by rw [h1]; decide) (by rw [h1]; decide) (by rw [h1]; rfl) rfl ?_
    refine z_iconst C d_Waves_newsEntryFact_32 zki_0 ?_
    cases hf
    exact z_iret C rfl (Nat.le_of_ble_eq_true rfl) (Nat.le_of_ble_eq_true rfl) d_Waves_newsEntryFact_33
  · have hf := iff_f hf h1
    by_cases h2 : a2 = (1 : Int32)
    · have hf := iff_t hf h2
      refine z_tin (off := 33) (tgt := 34) C d_Waves_newsEntryFact_1 (by rw [h2]; decide) (by rw [h2]; decide) (by rw [h2]; rfl) rfl ?_
      refine z_iload_n C d_Waves_newsEntryFact_34 2 rfl rfl ?_
      cases hf
      exact z_iret C rfl (Nat.le_of_ble_eq_true rfl) (Nat.le_of_ble_eq_true rfl) d_Waves_newsEntryFact_35
    · have hf := iff_f hf h2
      by_cases h3 : a2 = (2 : Int32)
      · have hf := iff_t hf h3
        refine z_tin (off := 35) (tgt := 36) C d_Waves_newsEntryFact_1 (by rw [h3]; decide) (by rw [h3]; decide) (by rw [h3]; rfl) rfl ?_
        refine z_aload_n C d_Waves_newsEntryFact_36 0 rfl rfl ?_
        refine gf_Waves_10 C (zx4 hx 70 rfl) rfl rfl d_Waves_newsEntryFact_37 ?_
        refine gf_Waves_174 C (zlv (zxv hx 0 rfl) 0 rfl) rfl rfl d_Waves_newsEntryFact_40 ?_
        refine z_iload_n C d_Waves_newsEntryFact_43 1 rfl rfl ?_
        refine z_iload_n C d_Waves_newsEntryFact_44 2 rfl rfl ?_
        obtain ⟨r5, h4, hf⟩ := bd_s hf
        refine z_cVi C kl_Waves_357 rfl (c_Entries_time (zxv hx 0 rfl) (Or.inl rfl) h4) (zlv (zxv hx 0 rfl) 43 rfl) rfl rfl rfl (Nat.le_of_ble_eq_true rfl) ⟨(Nat.le_of_ble_eq_true rfl), (Nat.le_of_ble_eq_true rfl)⟩ ⟨(Nat.le_of_ble_eq_true rfl), (Nat.le_of_ble_eq_true rfl)⟩ d_Waves_newsEntryFact_45 ?_
        cases hf
        exact z_iret C rfl (Nat.le_of_ble_eq_true rfl) (Nat.le_of_ble_eq_true rfl) d_Waves_newsEntryFact_48
      · have hf := iff_f hf h3
        by_cases h6 : a2 = (3 : Int32)
        · have hf := iff_t hf h6
          refine z_tin (off := 48) (tgt := 49) C d_Waves_newsEntryFact_1 (by rw [h6]; decide) (by rw [h6]; decide) (by rw [h6]; rfl) rfl ?_
          refine z_aload_n C d_Waves_newsEntryFact_49 0 rfl rfl ?_
          refine gf_Waves_10 C (zx4 hx 70 rfl) rfl rfl d_Waves_newsEntryFact_50 ?_
          refine gf_Waves_362 C (zlv (zxv hx 0 rfl) 0 rfl) rfl rfl d_Waves_newsEntryFact_53 ?_
          refine z_iload_n C d_Waves_newsEntryFact_56 1 rfl rfl ?_
          refine z_iload_n C d_Waves_newsEntryFact_57 2 rfl rfl ?_
          obtain ⟨r8, h7, hf⟩ := bd_s hf
          refine z_cSi C kl_Waves_274 (c_Waves_cell h7) rfl rfl (Nat.le_of_ble_eq_true rfl) ⟨(Nat.le_of_ble_eq_true rfl), (Nat.le_of_ble_eq_true rfl)⟩ ⟨(Nat.le_of_ble_eq_true rfl), (Nat.le_of_ble_eq_true rfl)⟩ d_Waves_newsEntryFact_58 ?_
          obtain ⟨r10, h9, hf⟩ := bd_s hf
          refine z_cVi C kl_Waves_123 rfl (c_Row_get (zrow_v (zxv hx 0 rfl) 53 rfl) h9) (zlv (zxv hx 0 rfl) 53 rfl) rfl rfl rfl (Nat.le_of_ble_eq_true rfl) ⟨(Nat.le_of_ble_eq_true rfl), (Nat.le_of_ble_eq_true rfl)⟩ ⟨(Nat.le_of_ble_eq_true rfl), (Nat.le_of_ble_eq_true rfl)⟩ d_Waves_newsEntryFact_61 ?_
          cases hf
          exact z_iret C rfl (Nat.le_of_ble_eq_true rfl) (Nat.le_of_ble_eq_true rfl) d_Waves_newsEntryFact_64
        · have hf := iff_f hf h6
          refine z_tout (tgt := 65) C d_Waves_newsEntryFact_1 (ztab_0_3 h1 h2 h3 h6) rfl ?_
          refine z_iconst C d_Waves_newsEntryFact_65 zki_1 ?_
          cases hf
          exact z_iret C rfl (Nat.le_of_ble_eq_true rfl) (Nat.le_of_ble_eq_true rfl) d_Waves_newsEntryFact_66
abbrev rm_Waves_entry : Room := { frames := 7, cells := 0, slots := 0, locals := 114 }
theorem d_Waves_entry_0 : decode b_Waves_entry 0 = .ok (.aload_n 0, 1) := by decide +kernel
theorem d_Waves_entry_1 : decode b_Waves_entry 1 = .ok (.iload_n 1, 1) := by decide +kernel
theorem d_Waves_entry_2 : decode b_Waves_entry 2 = .ok (.invokevirtual 93, 3) := by decide +kernel
theorem d_Waves_entry_5 : decode b_Waves_entry 5 = .ok (.aload_n 0, 1) := by decide +kernel
theorem d_Waves_entry_6 : decode b_Waves_entry 6 = .ok (.getfield 10, 3) := by decide +kernel
theorem d_Waves_entry_9 : decode b_Waves_entry 9 = .ok (.getfield 182, 3) := by decide +kernel
theorem d_Waves_entry_12 : decode b_Waves_entry 12 = .ok (.iload_n 1, 1) := by decide +kernel
theorem d_Waves_entry_13 : decode b_Waves_entry 13 = .ok (.invokevirtual 216, 3) := by decide +kernel
theorem d_Waves_entry_16 : decode b_Waves_entry 16 = .ok (.istore 4, 2) := by decide +kernel
theorem d_Waves_entry_18 : decode b_Waves_entry 18 = .ok (.iload 4, 2) := by decide +kernel
theorem d_Waves_entry_20 : decode b_Waves_entry 20 = .ok (.aload_n 0, 1) := by decide +kernel
theorem d_Waves_entry_21 : decode b_Waves_entry 21 = .ok (.getfield 10, 3) := by decide +kernel
theorem d_Waves_entry_24 : decode b_Waves_entry 24 = .ok (.getfield 174, 3) := by decide +kernel
theorem d_Waves_entry_27 : decode b_Waves_entry 27 = .ok (.iload_n 1, 1) := by decide +kernel
theorem d_Waves_entry_28 : decode b_Waves_entry 28 = .ok (.invokevirtual 216, 3) := by decide +kernel
theorem d_Waves_entry_31 : decode b_Waves_entry 31 = .ok (.iadd, 1) := by decide +kernel
theorem d_Waves_entry_32 : decode b_Waves_entry 32 = .ok (.istore 5, 2) := by decide +kernel
theorem d_Waves_entry_34 : decode b_Waves_entry 34 = .ok (.iload_n 2, 1) := by decide +kernel
theorem d_Waves_entry_35 : decode b_Waves_entry 35 = .ok (.ifCond .lt 9, 3) := by decide +kernel
theorem d_Waves_entry_38 : decode b_Waves_entry 38 = .ok (.iload_n 2, 1) := by decide +kernel
theorem d_Waves_entry_39 : decode b_Waves_entry 39 = .ok (.iload 5, 2) := by decide +kernel
theorem d_Waves_entry_41 : decode b_Waves_entry 41 = .ok (.if_icmp .lt 13, 3) := by decide +kernel
theorem d_Waves_entry_44 : decode b_Waves_entry 44 = .ok (.new 222, 3) := by decide +kernel
theorem d_Waves_entry_47 : decode b_Waves_entry 47 = .ok (.dup, 1) := by decide +kernel
theorem d_Waves_entry_48 : decode b_Waves_entry 48 = .ok (.ldc 224, 2) := by decide +kernel
theorem d_Waves_entry_50 : decode b_Waves_entry 50 = .ok (.invokespecial 226, 3) := by decide +kernel
theorem d_Waves_entry_53 : decode b_Waves_entry 53 = .ok (.athrow, 1) := by decide +kernel
theorem d_Waves_entry_54 : decode b_Waves_entry 54 = .ok (.iload_n 3, 1) := by decide +kernel
theorem d_Waves_entry_55 : decode b_Waves_entry 55 = .ok (.iconst 0, 1) := by decide +kernel
theorem d_Waves_entry_56 : decode b_Waves_entry 56 = .ok (.iconst 4, 1) := by decide +kernel
theorem d_Waves_entry_57 : decode b_Waves_entry 57 = .ok (.invokestatic 56, 3) := by decide +kernel
theorem d_Waves_entry_60 : decode b_Waves_entry 60 = .ok (.iload_n 2, 1) := by decide +kernel
theorem d_Waves_entry_61 : decode b_Waves_entry 61 = .ok (.iload 4, 2) := by decide +kernel
theorem d_Waves_entry_63 : decode b_Waves_entry 63 = .ok (.if_icmp .ge 22, 3) := by decide +kernel
theorem d_Waves_entry_66 : decode b_Waves_entry 66 = .ok (.aload_n 0, 1) := by decide +kernel
theorem d_Waves_entry_67 : decode b_Waves_entry 67 = .ok (.iload_n 1, 1) := by decide +kernel
theorem d_Waves_entry_68 : decode b_Waves_entry 68 = .ok (.aload_n 0, 1) := by decide +kernel
theorem d_Waves_entry_69 : decode b_Waves_entry 69 = .ok (.getfield 10, 3) := by decide +kernel
theorem d_Waves_entry_72 : decode b_Waves_entry 72 = .ok (.getfield 182, 3) := by decide +kernel
theorem d_Waves_entry_75 : decode b_Waves_entry 75 = .ok (.iload_n 1, 1) := by decide +kernel
theorem d_Waves_entry_76 : decode b_Waves_entry 76 = .ok (.iload_n 2, 1) := by decide +kernel
theorem d_Waves_entry_77 : decode b_Waves_entry 77 = .ok (.invokevirtual 227, 3) := by decide +kernel
theorem d_Waves_entry_80 : decode b_Waves_entry 80 = .ok (.iload_n 3, 1) := by decide +kernel
theorem d_Waves_entry_81 : decode b_Waves_entry 81 = .ok (.invokevirtual 231, 3) := by decide +kernel
theorem d_Waves_entry_84 : decode b_Waves_entry 84 = .ok (.ireturn, 1) := by decide +kernel
theorem d_Waves_entry_85 : decode b_Waves_entry 85 = .ok (.aload_n 0, 1) := by decide +kernel
theorem d_Waves_entry_86 : decode b_Waves_entry 86 = .ok (.iload_n 1, 1) := by decide +kernel
theorem d_Waves_entry_87 : decode b_Waves_entry 87 = .ok (.aload_n 0, 1) := by decide +kernel
theorem d_Waves_entry_88 : decode b_Waves_entry 88 = .ok (.getfield 10, 3) := by decide +kernel
theorem d_Waves_entry_91 : decode b_Waves_entry 91 = .ok (.getfield 174, 3) := by decide +kernel
theorem d_Waves_entry_94 : decode b_Waves_entry 94 = .ok (.iload_n 1, 1) := by decide +kernel
theorem d_Waves_entry_95 : decode b_Waves_entry 95 = .ok (.iload_n 2, 1) := by decide +kernel
theorem d_Waves_entry_96 : decode b_Waves_entry 96 = .ok (.iload 4, 2) := by decide +kernel
theorem d_Waves_entry_98 : decode b_Waves_entry 98 = .ok (.isub, 1) := by decide +kernel
theorem d_Waves_entry_99 : decode b_Waves_entry 99 = .ok (.invokevirtual 227, 3) := by decide +kernel
theorem d_Waves_entry_102 : decode b_Waves_entry 102 = .ok (.iload_n 3, 1) := by decide +kernel
theorem d_Waves_entry_103 : decode b_Waves_entry 103 = .ok (.invokevirtual 235, 3) := by decide +kernel
theorem d_Waves_entry_106 : decode b_Waves_entry 106 = .ok (.ireturn, 1) := by decide +kernel
def F_Waves_entry (a0 : Int32) (a1 : Int32) (a2 : Int32) (σ : zSt) : Option (Int32) :=
  (F_Waves_checkHouse a0 σ).bind fun _ => (F_Entries_size 0 48 a0 σ).bind fun r3 => (F_Entries_size 0 43 a0 σ).bind fun r5 => if a1 < 0 then none else (if a1 < (r3 + r5) then ((F_Waves_checkWithin a2 (0 : Int32) (4 : Int32) σ).bind fun _ => if r3 ≤ a1 then ((F_Entries_at 0 43 a0 (a1 - r3) σ).bind fun r8 => (F_Waves_newsEntryFact a0 r8 a2 σ).bind fun r10 => some r10) else ((F_Entries_at 0 48 a0 a1 σ).bind fun r12 => (F_Waves_correctionEntryFact a0 r12 a2 σ).bind fun r14 => some r14)) else none)
set_option maxHeartbeats 4000000 in
set_option maxRecDepth 100000 in
theorem c_Waves_entry {l : Launch} {G : zLA} (hx : zxl G) {a0 : Int32} {a1 : Int32} {a2 : Int32} {σ : zSt} {r : Int32} (hf : F_Waves_entry a0 a1 a2 σ = some r) : zM l G y_Waves_entry (zws y_Waves_entry b_Waves_entry 6 (some .int)) rm_Waves_entry [.ref (zad G 4 70), .int a0, .int a1, .int a2] σ (some (.int r)) σ := by
  refine z_ofM (own := "VillageWaves") (lv := [(0, .ref (zad G 4 70)), (1, .int a0), (2, .int a1), (3, .int a2)]) (by decide +kernel) rfl rfl (Nat.le_of_ble_eq_true rfl) (fun p e s m args below meth c C => ?_)
  rw [F_Waves_entry] at hf
  refine z_aload_n C d_Waves_entry_0 0 rfl rfl ?_
  refine z_iload_n C d_Waves_entry_1 1 rfl rfl ?_
  obtain ⟨_, h1, hf⟩ := bd_s hf
  refine z_cVv C kl_Waves_93 rfl (c_Waves_checkHouse hx h1) (zx4 hx 70 rfl) rfl rfl rfl (Nat.le_of_ble_eq_true rfl) ⟨(Nat.le_of_ble_eq_true rfl), (Nat.le_of_ble_eq_true rfl)⟩ ⟨(Nat.le_of_ble_eq_true rfl), (Nat.le_of_ble_eq_true rfl)⟩ d_Waves_entry_2 ?_
  refine z_aload_n C d_Waves_entry_5 0 rfl rfl ?_
  refine gf_Waves_10 C (zx4 hx 70 rfl) rfl rfl d_Waves_entry_6 ?_
  refine gf_Waves_182 C (zlv (zxv hx 0 rfl) 0 rfl) rfl rfl d_Waves_entry_9 ?_
  refine z_iload_n C d_Waves_entry_12 1 rfl rfl ?_
  obtain ⟨r3, h2, hf⟩ := bd_s hf
  refine z_cVi C kl_Waves_216 rfl (c_Entries_size (zxv hx 0 rfl) (Or.inr rfl) h2) (zlv (zxv hx 0 rfl) 48 rfl) rfl rfl rfl (Nat.le_of_ble_eq_true rfl) ⟨(Nat.le_of_ble_eq_true rfl), (Nat.le_of_ble_eq_true rfl)⟩ ⟨(Nat.le_of_ble_eq_true rfl), (Nat.le_of_ble_eq_true rfl)⟩ d_Waves_entry_13 ?_
  refine z_istore C d_Waves_entry_16 (by decide) ?_
  refine z_iload C d_Waves_entry_18 0 rfl ?_
  refine z_aload_n C d_Waves_entry_20 1 rfl rfl ?_
  refine gf_Waves_10 C (zx4 hx 70 rfl) rfl rfl d_Waves_entry_21 ?_
  refine gf_Waves_174 C (zlv (zxv hx 0 rfl) 0 rfl) rfl rfl d_Waves_entry_24 ?_
  refine z_iload_n C d_Waves_entry_27 2 rfl rfl ?_
  obtain ⟨r5, h4, hf⟩ := bd_s hf
  refine z_cVi C kl_Waves_216 rfl (c_Entries_size (zxv hx 0 rfl) (Or.inl rfl) h4) (zlv (zxv hx 0 rfl) 43 rfl) rfl rfl rfl (Nat.le_of_ble_eq_true rfl) ⟨(Nat.le_of_ble_eq_true rfl), (Nat.le_of_ble_eq_true rfl)⟩ ⟨(Nat.le_of_ble_eq_true rfl), (Nat.le_of_ble_eq_true rfl)⟩ d_Waves_entry_28 ?_
  refine z_iadd C d_Waves_entry_31 ?_
  refine z_istore C d_Waves_entry_32 (by decide) ?_
  refine z_iload_n C d_Waves_entry_34 4 rfl rfl ?_
  refine z_if_lt (tgt := 44) C d_Waves_entry_35 rfl (fun h17 => ?_) (fun h17 => ?_)
  · have hf := iff_t hf h17
    cases hf
  · have hf := iff_f hf h17
    refine z_iload_n C d_Waves_entry_38 4 rfl rfl ?_
    refine z_iload C d_Waves_entry_39 0 rfl ?_
    refine z_icmp_lt (tgt := 54) C d_Waves_entry_41 rfl (fun h16 => ?_) (fun h16 => ?_)
    · have hf := iff_t hf h16
      refine z_iload_n C d_Waves_entry_54 5 rfl rfl ?_
      refine z_iconst C d_Waves_entry_55 zki_0 ?_
      refine z_iconst C d_Waves_entry_56 zki_4 ?_
      obtain ⟨_, h6, hf⟩ := bd_s hf
      refine z_cSv C kl_Waves_56 (c_Waves_checkWithin h6) rfl rfl (Nat.le_of_ble_eq_true rfl) ⟨(Nat.le_of_ble_eq_true rfl), (Nat.le_of_ble_eq_true rfl)⟩ ⟨(Nat.le_of_ble_eq_true rfl), (Nat.le_of_ble_eq_true rfl)⟩ d_Waves_entry_57 ?_
      refine z_iload_n C d_Waves_entry_60 4 rfl rfl ?_
      refine z_iload C d_Waves_entry_61 1 rfl ?_
      refine z_icmp_ge (tgt := 85) C d_Waves_entry_63 rfl (fun h15 => ?_) (fun h15 => ?_)
      · have hf := iff_t hf h15
        refine z_aload_n C d_Waves_entry_85 2 rfl rfl ?_
        refine z_iload_n C d_Waves_entry_86 3 rfl rfl ?_
        refine z_aload_n C d_Waves_entry_87 2 rfl rfl ?_
        refine gf_Waves_10 C (zx4 hx 70 rfl) rfl rfl d_Waves_entry_88 ?_
        refine gf_Waves_174 C (zlv (zxv hx 0 rfl) 0 rfl) rfl rfl d_Waves_entry_91 ?_
        refine z_iload_n C d_Waves_entry_94 3 rfl rfl ?_
        refine z_iload_n C d_Waves_entry_95 4 rfl rfl ?_
        refine z_iload C d_Waves_entry_96 1 rfl ?_
        refine z_isub C d_Waves_entry_98 ?_
        obtain ⟨r8, h7, hf⟩ := bd_s hf
        refine z_cVi C kl_Waves_227 rfl (c_Entries_at (zxv hx 0 rfl) (Or.inl rfl) h7) (zlv (zxv hx 0 rfl) 43 rfl) rfl rfl rfl (Nat.le_of_ble_eq_true rfl) ⟨(Nat.le_of_ble_eq_true rfl), (Nat.le_of_ble_eq_true rfl)⟩ ⟨(Nat.le_of_ble_eq_true rfl), (Nat.le_of_ble_eq_true rfl)⟩ d_Waves_entry_99 ?_
        refine z_iload_n C d_Waves_entry_102 5 rfl rfl ?_
        obtain ⟨r10, h9, hf⟩ := bd_s hf
        refine z_cVi C kl_Waves_235 rfl (c_Waves_newsEntryFact hx h9) (zx4 hx 70 rfl) rfl rfl rfl (Nat.le_of_ble_eq_true rfl) ⟨(Nat.le_of_ble_eq_true rfl), (Nat.le_of_ble_eq_true rfl)⟩ ⟨(Nat.le_of_ble_eq_true rfl), (Nat.le_of_ble_eq_true rfl)⟩ d_Waves_entry_103 ?_
        cases hf
        exact z_iret C rfl (Nat.le_of_ble_eq_true rfl) (Nat.le_of_ble_eq_true rfl) d_Waves_entry_106
      · have hf := iff_f hf h15
        refine z_aload_n C d_Waves_entry_66 2 rfl rfl ?_
        refine z_iload_n C d_Waves_entry_67 3 rfl rfl ?_
        refine z_aload_n C d_Waves_entry_68 2 rfl rfl ?_
        refine gf_Waves_10 C (zx4 hx 70 rfl) rfl rfl d_Waves_entry_69 ?_
        refine gf_Waves_182 C (zlv (zxv hx 0 rfl) 0 rfl) rfl rfl d_Waves_entry_72 ?_
        refine z_iload_n C d_Waves_entry_75 3 rfl rfl ?_
        refine z_iload_n C d_Waves_entry_76 4 rfl rfl ?_
        obtain ⟨r12, h11, hf⟩ := bd_s hf
        refine z_cVi C kl_Waves_227 rfl (c_Entries_at (zxv hx 0 rfl) (Or.inr rfl) h11) (zlv (zxv hx 0 rfl) 48 rfl) rfl rfl rfl (Nat.le_of_ble_eq_true rfl) ⟨(Nat.le_of_ble_eq_true rfl), (Nat.le_of_ble_eq_true rfl)⟩ ⟨(Nat.le_of_ble_eq_true rfl), (Nat.le_of_ble_eq_true rfl)⟩ d_Waves_entry_77 ?_
        refine z_iload_n C d_Waves_entry_80 5 rfl rfl ?_
        obtain ⟨r14, h13, hf⟩ := bd_s hf
        refine z_cVi C kl_Waves_231 rfl (c_Waves_correctionEntryFact hx h13) (zx4 hx 70 rfl) rfl rfl rfl (Nat.le_of_ble_eq_true rfl) ⟨(Nat.le_of_ble_eq_true rfl), (Nat.le_of_ble_eq_true rfl)⟩ ⟨(Nat.le_of_ble_eq_true rfl), (Nat.le_of_ble_eq_true rfl)⟩ d_Waves_entry_81 ?_
        cases hf
        exact z_iret C rfl (Nat.le_of_ble_eq_true rfl) (Nat.le_of_ble_eq_true rfl) d_Waves_entry_84
    · have hf := iff_f hf h16
      cases hf
abbrev rm_Waves_checkNews : Room := { frames := 6, cells := 0, slots := 0, locals := 92 }
theorem d_Waves_checkNews_0 : decode b_Waves_checkNews 0 = .ok (.iload_n 1, 1) := by decide +kernel
theorem d_Waves_checkNews_1 : decode b_Waves_checkNews 1 = .ok (.ifCond .lt 17, 3) := by decide +kernel
theorem d_Waves_checkNews_4 : decode b_Waves_checkNews 4 = .ok (.iload_n 1, 1) := by decide +kernel
theorem d_Waves_checkNews_5 : decode b_Waves_checkNews 5 = .ok (.aload_n 0, 1) := by decide +kernel
theorem d_Waves_checkNews_6 : decode b_Waves_checkNews 6 = .ok (.getfield 10, 3) := by decide +kernel
theorem d_Waves_checkNews_9 : decode b_Waves_checkNews 9 = .ok (.getfield 145, 3) := by decide +kernel
theorem d_Waves_checkNews_12 : decode b_Waves_checkNews 12 = .ok (.getfield 149, 3) := by decide +kernel
theorem d_Waves_checkNews_15 : decode b_Waves_checkNews 15 = .ok (.if_icmp .lt 14, 3) := by decide +kernel
theorem d_Waves_checkNews_18 : decode b_Waves_checkNews 18 = .ok (.new 222, 3) := by decide +kernel
theorem d_Waves_checkNews_21 : decode b_Waves_checkNews 21 = .ok (.dup, 1) := by decide +kernel
theorem d_Waves_checkNews_22 : decode b_Waves_checkNews 22 = .ok (.ldc_w 347, 3) := by decide +kernel
theorem d_Waves_checkNews_25 : decode b_Waves_checkNews 25 = .ok (.invokespecial 226, 3) := by decide +kernel
theorem d_Waves_checkNews_28 : decode b_Waves_checkNews 28 = .ok (.athrow, 1) := by decide +kernel
theorem d_Waves_checkNews_29 : decode b_Waves_checkNews 29 = .ok (.return_, 1) := by decide +kernel
def F_Waves_checkNews (a0 : Int32) (σ : zSt) : Option (Unit) :=
  if a0 < 0 then none else (if a0 < (σ.1 0 24 0) then some () else none)
set_option maxHeartbeats 4000000 in
set_option maxRecDepth 100000 in
theorem c_Waves_checkNews {l : Launch} {G : zLA} (hx : zxl G) {a0 : Int32} {σ : zSt} (hf : F_Waves_checkNews a0 σ = some ()) : zM l G y_Waves_checkNews (zws y_Waves_checkNews b_Waves_checkNews 2 none) rm_Waves_checkNews [.ref (zad G 4 70), .int a0] σ none σ := by
  refine z_ofM (own := "VillageWaves") (lv := [(0, .ref (zad G 4 70)), (1, .int a0)]) (by decide +kernel) rfl rfl (Nat.le_of_ble_eq_true rfl) (fun p e s m args below meth c C => ?_)
  rw [F_Waves_checkNews] at hf
  refine z_iload_n C d_Waves_checkNews_0 1 rfl rfl ?_
  refine z_if_lt (tgt := 18) C d_Waves_checkNews_1 rfl (fun h2 => ?_) (fun h2 => ?_)
  · have hf := iff_t hf h2
    cases hf
  · have hf := iff_f hf h2
    refine z_iload_n C d_Waves_checkNews_4 1 rfl rfl ?_
    refine z_aload_n C d_Waves_checkNews_5 0 rfl rfl ?_
    refine gf_Waves_10 C (zx4 hx 70 rfl) rfl rfl d_Waves_checkNews_6 ?_
    refine gf_Waves_145 C (zlv (zxv hx 0 rfl) 0 rfl) rfl rfl d_Waves_checkNews_9 ?_
    refine gf_Waves_149 C (zlv (zxv hx 0 rfl) 24 rfl) rfl rfl d_Waves_checkNews_12 ?_
    refine z_icmp_lt (tgt := 29) C d_Waves_checkNews_15 rfl (fun h1 => ?_) (fun h1 => ?_)
    · have hf := iff_t hf h1
      cases hf
      exact z_vret C rfl (Nat.le_of_ble_eq_true rfl) (Nat.le_of_ble_eq_true rfl) d_Waves_checkNews_29
    · have hf := iff_f hf h1
      cases hf
abbrev rm_Waves_news : Room := { frames := 7, cells := 0, slots := 0, locals := 114 }
theorem d_Waves_news_0 : decode b_Waves_news 0 = .ok (.aload_n 0, 1) := by decide +kernel
theorem d_Waves_news_1 : decode b_Waves_news 1 = .ok (.iload_n 1, 1) := by decide +kernel
theorem d_Waves_news_2 : decode b_Waves_news 2 = .ok (.invokevirtual 238, 3) := by decide +kernel
theorem d_Waves_news_5 : decode b_Waves_news 5 = .ok (.iload_n 2, 1) := by decide +kernel
theorem d_Waves_news_6 : decode b_Waves_news 6 = .ok (.iconst 0, 1) := by decide +kernel
theorem d_Waves_news_7 : decode b_Waves_news 7 = .ok (.bipush 9, 2) := by decide +kernel
theorem d_Waves_news_9 : decode b_Waves_news 9 = .ok (.invokestatic 56, 3) := by decide +kernel
theorem d_Waves_news_12 : decode b_Waves_news 12 = .ok (.iload_n 2, 1) := by decide +kernel
theorem d_Waves_news_13 : decode b_Waves_news 13 = .ok (.tableswitch 183 0 8 #[51, 66, 81, 96, 111, 126, 141, 156, 171], 51) := by decide +kernel
theorem d_Waves_news_64 : decode b_Waves_news 64 = .ok (.aload_n 0, 1) := by decide +kernel
theorem d_Waves_news_65 : decode b_Waves_news 65 = .ok (.getfield 10, 3) := by decide +kernel
theorem d_Waves_news_68 : decode b_Waves_news 68 = .ok (.getfield 145, 3) := by decide +kernel
theorem d_Waves_news_71 : decode b_Waves_news 71 = .ok (.getfield 241, 3) := by decide +kernel
theorem d_Waves_news_74 : decode b_Waves_news 74 = .ok (.iload_n 1, 1) := by decide +kernel
theorem d_Waves_news_75 : decode b_Waves_news 75 = .ok (.invokevirtual 123, 3) := by decide +kernel
theorem d_Waves_news_78 : decode b_Waves_news 78 = .ok (.ireturn, 1) := by decide +kernel
theorem d_Waves_news_79 : decode b_Waves_news 79 = .ok (.aload_n 0, 1) := by decide +kernel
theorem d_Waves_news_80 : decode b_Waves_news 80 = .ok (.getfield 10, 3) := by decide +kernel
theorem d_Waves_news_83 : decode b_Waves_news 83 = .ok (.getfield 145, 3) := by decide +kernel
theorem d_Waves_news_86 : decode b_Waves_news 86 = .ok (.getfield 244, 3) := by decide +kernel
theorem d_Waves_news_89 : decode b_Waves_news 89 = .ok (.iload_n 1, 1) := by decide +kernel
theorem d_Waves_news_90 : decode b_Waves_news 90 = .ok (.invokevirtual 123, 3) := by decide +kernel
theorem d_Waves_news_93 : decode b_Waves_news 93 = .ok (.ireturn, 1) := by decide +kernel
theorem d_Waves_news_94 : decode b_Waves_news 94 = .ok (.aload_n 0, 1) := by decide +kernel
theorem d_Waves_news_95 : decode b_Waves_news 95 = .ok (.getfield 10, 3) := by decide +kernel
theorem d_Waves_news_98 : decode b_Waves_news 98 = .ok (.getfield 145, 3) := by decide +kernel
theorem d_Waves_news_101 : decode b_Waves_news 101 = .ok (.getfield 247, 3) := by decide +kernel
theorem d_Waves_news_104 : decode b_Waves_news 104 = .ok (.iload_n 1, 1) := by decide +kernel
theorem d_Waves_news_105 : decode b_Waves_news 105 = .ok (.invokevirtual 123, 3) := by decide +kernel
theorem d_Waves_news_108 : decode b_Waves_news 108 = .ok (.ireturn, 1) := by decide +kernel
theorem d_Waves_news_109 : decode b_Waves_news 109 = .ok (.aload_n 0, 1) := by decide +kernel
theorem d_Waves_news_110 : decode b_Waves_news 110 = .ok (.getfield 10, 3) := by decide +kernel
theorem d_Waves_news_113 : decode b_Waves_news 113 = .ok (.getfield 145, 3) := by decide +kernel
theorem d_Waves_news_116 : decode b_Waves_news 116 = .ok (.getfield 250, 3) := by decide +kernel
theorem d_Waves_news_119 : decode b_Waves_news 119 = .ok (.iload_n 1, 1) := by decide +kernel
theorem d_Waves_news_120 : decode b_Waves_news 120 = .ok (.invokevirtual 123, 3) := by decide +kernel
theorem d_Waves_news_123 : decode b_Waves_news 123 = .ok (.ireturn, 1) := by decide +kernel
theorem d_Waves_news_124 : decode b_Waves_news 124 = .ok (.aload_n 0, 1) := by decide +kernel
theorem d_Waves_news_125 : decode b_Waves_news 125 = .ok (.getfield 10, 3) := by decide +kernel
theorem d_Waves_news_128 : decode b_Waves_news 128 = .ok (.getfield 145, 3) := by decide +kernel
theorem d_Waves_news_131 : decode b_Waves_news 131 = .ok (.getfield 253, 3) := by decide +kernel
theorem d_Waves_news_134 : decode b_Waves_news 134 = .ok (.iload_n 1, 1) := by decide +kernel
theorem d_Waves_news_135 : decode b_Waves_news 135 = .ok (.invokevirtual 123, 3) := by decide +kernel
theorem d_Waves_news_138 : decode b_Waves_news 138 = .ok (.ireturn, 1) := by decide +kernel
theorem d_Waves_news_139 : decode b_Waves_news 139 = .ok (.aload_n 0, 1) := by decide +kernel
theorem d_Waves_news_140 : decode b_Waves_news 140 = .ok (.getfield 10, 3) := by decide +kernel
theorem d_Waves_news_143 : decode b_Waves_news 143 = .ok (.getfield 145, 3) := by decide +kernel
theorem d_Waves_news_146 : decode b_Waves_news 146 = .ok (.getfield 256, 3) := by decide +kernel
theorem d_Waves_news_149 : decode b_Waves_news 149 = .ok (.iload_n 1, 1) := by decide +kernel
theorem d_Waves_news_150 : decode b_Waves_news 150 = .ok (.invokevirtual 123, 3) := by decide +kernel
theorem d_Waves_news_153 : decode b_Waves_news 153 = .ok (.ireturn, 1) := by decide +kernel
theorem d_Waves_news_154 : decode b_Waves_news 154 = .ok (.aload_n 0, 1) := by decide +kernel
theorem d_Waves_news_155 : decode b_Waves_news 155 = .ok (.getfield 10, 3) := by decide +kernel
theorem d_Waves_news_158 : decode b_Waves_news 158 = .ok (.getfield 145, 3) := by decide +kernel
theorem d_Waves_news_161 : decode b_Waves_news 161 = .ok (.getfield 259, 3) := by decide +kernel
theorem d_Waves_news_164 : decode b_Waves_news 164 = .ok (.iload_n 1, 1) := by decide +kernel
theorem d_Waves_news_165 : decode b_Waves_news 165 = .ok (.invokevirtual 123, 3) := by decide +kernel
theorem d_Waves_news_168 : decode b_Waves_news 168 = .ok (.ireturn, 1) := by decide +kernel
theorem d_Waves_news_169 : decode b_Waves_news 169 = .ok (.aload_n 0, 1) := by decide +kernel
theorem d_Waves_news_170 : decode b_Waves_news 170 = .ok (.getfield 10, 3) := by decide +kernel
theorem d_Waves_news_173 : decode b_Waves_news 173 = .ok (.getfield 145, 3) := by decide +kernel
theorem d_Waves_news_176 : decode b_Waves_news 176 = .ok (.getfield 262, 3) := by decide +kernel
theorem d_Waves_news_179 : decode b_Waves_news 179 = .ok (.iload_n 1, 1) := by decide +kernel
theorem d_Waves_news_180 : decode b_Waves_news 180 = .ok (.invokevirtual 123, 3) := by decide +kernel
theorem d_Waves_news_183 : decode b_Waves_news 183 = .ok (.ireturn, 1) := by decide +kernel
theorem d_Waves_news_184 : decode b_Waves_news 184 = .ok (.aload_n 0, 1) := by decide +kernel
theorem d_Waves_news_185 : decode b_Waves_news 185 = .ok (.getfield 10, 3) := by decide +kernel
theorem d_Waves_news_188 : decode b_Waves_news 188 = .ok (.getfield 145, 3) := by decide +kernel
theorem d_Waves_news_191 : decode b_Waves_news 191 = .ok (.iload_n 1, 1) := by decide +kernel
theorem d_Waves_news_192 : decode b_Waves_news 192 = .ok (.invokevirtual 265, 3) := by decide +kernel
theorem d_Waves_news_195 : decode b_Waves_news 195 = .ok (.ireturn, 1) := by decide +kernel
theorem d_Waves_news_196 : decode b_Waves_news 196 = .ok (.aload_n 0, 1) := by decide +kernel
theorem d_Waves_news_197 : decode b_Waves_news 197 = .ok (.getfield 10, 3) := by decide +kernel
theorem d_Waves_news_200 : decode b_Waves_news 200 = .ok (.getfield 145, 3) := by decide +kernel
theorem d_Waves_news_203 : decode b_Waves_news 203 = .ok (.getfield 268, 3) := by decide +kernel
theorem d_Waves_news_206 : decode b_Waves_news 206 = .ok (.iload_n 1, 1) := by decide +kernel
theorem d_Waves_news_207 : decode b_Waves_news 207 = .ok (.invokevirtual 123, 3) := by decide +kernel
theorem d_Waves_news_210 : decode b_Waves_news 210 = .ok (.ireturn, 1) := by decide +kernel
def F_Waves_news (a0 : Int32) (a1 : Int32) (σ : zSt) : Option (Int32) :=
  (F_Waves_checkNews a0 σ).bind fun _ => (F_Waves_checkWithin a1 (0 : Int32) (9 : Int32) σ).bind fun _ => if a1 = (0 : Int32) then ((F_Row_get 0 25 a0 σ).bind fun r5 => some r5) else (if a1 = (1 : Int32) then ((F_Row_get 0 27 a0 σ).bind fun r8 => some r8) else (if a1 = (2 : Int32) then ((F_Row_get 0 29 a0 σ).bind fun r11 => some r11) else (if a1 = (3 : Int32) then ((F_Row_get 0 31 a0 σ).bind fun r14 => some r14) else (if a1 = (4 : Int32) then ((F_Row_get 0 33 a0 σ).bind fun r17 => some r17) else (if a1 = (5 : Int32) then ((F_Row_get 0 35 a0 σ).bind fun r20 => some r20) else (if a1 = (6 : Int32) then ((F_Row_get 0 37 a0 σ).bind fun r23 => some r23) else (if a1 = (7 : Int32) then ((F_Row_get 0 39 a0 σ).bind fun r26 => some r26) else (if a1 = (8 : Int32) then ((F_Tidings_uncorrectedHouses 0 a0 σ).bind fun r29 => some r29) else ((F_Row_get 0 41 a0 σ).bind fun r31 => some r31)))))))))
set_option maxHeartbeats 4000000 in
set_option maxRecDepth 100000 in
theorem c_Waves_news {l : Launch} {G : zLA} (hx : zxl G) {a0 : Int32} {a1 : Int32} {σ : zSt} {r : Int32} (hf : F_Waves_news a0 a1 σ = some r) : zM l G y_Waves_news (zws y_Waves_news b_Waves_news 3 (some .int)) rm_Waves_news [.ref (zad G 4 70), .int a0, .int a1] σ (some (.int r)) σ := by
  refine z_ofM (own := "VillageWaves") (lv := [(0, .ref (zad G 4 70)), (1, .int a0), (2, .int a1)]) (by decide +kernel) rfl rfl (Nat.le_of_ble_eq_true rfl) (fun p e s m args below meth c C => ?_)
  rw [F_Waves_news] at hf
  refine z_aload_n C d_Waves_news_0 0 rfl rfl ?_
  refine z_iload_n C d_Waves_news_1 1 rfl rfl ?_
  obtain ⟨_, h1, hf⟩ := bd_s hf
  refine z_cVv C kl_Waves_238 rfl (c_Waves_checkNews hx h1) (zx4 hx 70 rfl) rfl rfl rfl (Nat.le_of_ble_eq_true rfl) ⟨(Nat.le_of_ble_eq_true rfl), (Nat.le_of_ble_eq_true rfl)⟩ ⟨(Nat.le_of_ble_eq_true rfl), (Nat.le_of_ble_eq_true rfl)⟩ d_Waves_news_2 ?_
  refine z_iload_n C d_Waves_news_5 2 rfl rfl ?_
  refine z_iconst C d_Waves_news_6 zki_0 ?_
  refine z_bipush C d_Waves_news_7 zkb_9 ?_
  obtain ⟨_, h2, hf⟩ := bd_s hf
  refine z_cSv C kl_Waves_56 (c_Waves_checkWithin h2) rfl rfl (Nat.le_of_ble_eq_true rfl) ⟨(Nat.le_of_ble_eq_true rfl), (Nat.le_of_ble_eq_true rfl)⟩ ⟨(Nat.le_of_ble_eq_true rfl), (Nat.le_of_ble_eq_true rfl)⟩ d_Waves_news_9 ?_
  refine z_iload_n C d_Waves_news_12 2 rfl rfl ?_
  by_cases h3 : a1 = (0 : Int32)
  · have hf := iff_t hf h3
    refine z_tin (off := 51) (tgt := 64) C d_Waves_news_13 (by rw [h3]; decide) (by rw [h3]; decide) (by rw [h3]; rfl) rfl ?_
    refine z_aload_n C d_Waves_news_64 0 rfl rfl ?_
    refine gf_Waves_10 C (zx4 hx 70 rfl) rfl rfl d_Waves_news_65 ?_
    refine gf_Waves_145 C (zlv (zxv hx 0 rfl) 0 rfl) rfl rfl d_Waves_news_68 ?_
    refine gf_Waves_241 C (zlv (zxv hx 0 rfl) 24 rfl) rfl rfl d_Waves_news_71 ?_
    refine z_iload_n C d_Waves_news_74 1 rfl rfl ?_
    obtain ⟨r5, h4, hf⟩ := bd_s hf
    refine z_cVi C kl_Waves_123 rfl (c_Row_get (zrow_v (zxv hx 0 rfl) 25 rfl) h4) (zlv (zxv hx 0 rfl) 25 rfl) rfl rfl rfl (Nat.le_of_ble_eq_true rfl) ⟨(Nat.le_of_ble_eq_true rfl), (Nat.le_of_ble_eq_true rfl)⟩ ⟨(Nat.le_of_ble_eq_true rfl), (Nat.le_of_ble_eq_true rfl)⟩ d_Waves_news_75 ?_
    cases hf
    exact z_iret C rfl (Nat.le_of_ble_eq_true rfl) (Nat.le_of_ble_eq_true rfl) d_Waves_news_78
  · have hf := iff_f hf h3
    by_cases h6 : a1 = (1 : Int32)
    · have hf := iff_t hf h6
      refine z_tin (off := 66) (tgt := 79) C d_Waves_news_13 (by rw [h6]; decide) (by rw [h6]; decide) (by rw [h6]; rfl) rfl ?_
      refine z_aload_n C d_Waves_news_79 0 rfl rfl ?_
      refine gf_Waves_10 C (zx4 hx 70 rfl) rfl rfl d_Waves_news_80 ?_
      refine gf_Waves_145 C (zlv (zxv hx 0 rfl) 0 rfl) rfl rfl d_Waves_news_83 ?_
      refine gf_Waves_244 C (zlv (zxv hx 0 rfl) 24 rfl) rfl rfl d_Waves_news_86 ?_
      refine z_iload_n C d_Waves_news_89 1 rfl rfl ?_
      obtain ⟨r8, h7, hf⟩ := bd_s hf
      refine z_cVi C kl_Waves_123 rfl (c_Row_get (zrow_v (zxv hx 0 rfl) 27 rfl) h7) (zlv (zxv hx 0 rfl) 27 rfl) rfl rfl rfl (Nat.le_of_ble_eq_true rfl) ⟨(Nat.le_of_ble_eq_true rfl), (Nat.le_of_ble_eq_true rfl)⟩ ⟨(Nat.le_of_ble_eq_true rfl), (Nat.le_of_ble_eq_true rfl)⟩ d_Waves_news_90 ?_
      cases hf
      exact z_iret C rfl (Nat.le_of_ble_eq_true rfl) (Nat.le_of_ble_eq_true rfl) d_Waves_news_93
    · have hf := iff_f hf h6
      by_cases h9 : a1 = (2 : Int32)
      · have hf := iff_t hf h9
        refine z_tin (off := 81) (tgt := 94) C d_Waves_news_13 (by rw [h9]; decide) (by rw [h9]; decide) (by rw [h9]; rfl) rfl ?_
        refine z_aload_n C d_Waves_news_94 0 rfl rfl ?_
        refine gf_Waves_10 C (zx4 hx 70 rfl) rfl rfl d_Waves_news_95 ?_
        refine gf_Waves_145 C (zlv (zxv hx 0 rfl) 0 rfl) rfl rfl d_Waves_news_98 ?_
        refine gf_Waves_247 C (zlv (zxv hx 0 rfl) 24 rfl) rfl rfl d_Waves_news_101 ?_
        refine z_iload_n C d_Waves_news_104 1 rfl rfl ?_
        obtain ⟨r11, h10, hf⟩ := bd_s hf
        refine z_cVi C kl_Waves_123 rfl (c_Row_get (zrow_v (zxv hx 0 rfl) 29 rfl) h10) (zlv (zxv hx 0 rfl) 29 rfl) rfl rfl rfl (Nat.le_of_ble_eq_true rfl) ⟨(Nat.le_of_ble_eq_true rfl), (Nat.le_of_ble_eq_true rfl)⟩ ⟨(Nat.le_of_ble_eq_true rfl), (Nat.le_of_ble_eq_true rfl)⟩ d_Waves_news_105 ?_
        cases hf
        exact z_iret C rfl (Nat.le_of_ble_eq_true rfl) (Nat.le_of_ble_eq_true rfl) d_Waves_news_108
      · have hf := iff_f hf h9
        by_cases h12 : a1 = (3 : Int32)
        · have hf := iff_t hf h12
          refine z_tin (off := 96) (tgt := 109) C d_Waves_news_13 (by rw [h12]; decide) (by rw [h12]; decide) (by rw [h12]; rfl) rfl ?_
          refine z_aload_n C d_Waves_news_109 0 rfl rfl ?_
          refine gf_Waves_10 C (zx4 hx 70 rfl) rfl rfl d_Waves_news_110 ?_
          refine gf_Waves_145 C (zlv (zxv hx 0 rfl) 0 rfl) rfl rfl d_Waves_news_113 ?_
          refine gf_Waves_250 C (zlv (zxv hx 0 rfl) 24 rfl) rfl rfl d_Waves_news_116 ?_
          refine z_iload_n C d_Waves_news_119 1 rfl rfl ?_
          obtain ⟨r14, h13, hf⟩ := bd_s hf
          refine z_cVi C kl_Waves_123 rfl (c_Row_get (zrow_v (zxv hx 0 rfl) 31 rfl) h13) (zlv (zxv hx 0 rfl) 31 rfl) rfl rfl rfl (Nat.le_of_ble_eq_true rfl) ⟨(Nat.le_of_ble_eq_true rfl), (Nat.le_of_ble_eq_true rfl)⟩ ⟨(Nat.le_of_ble_eq_true rfl), (Nat.le_of_ble_eq_true rfl)⟩ d_Waves_news_120 ?_
          cases hf
          exact z_iret C rfl (Nat.le_of_ble_eq_true rfl) (Nat.le_of_ble_eq_true rfl) d_Waves_news_123
        · have hf := iff_f hf h12
          by_cases h15 : a1 = (4 : Int32)
          · have hf := iff_t hf h15
            refine z_tin (off := 111) (tgt := 124) C d_Waves_news_13 (by rw [h15]; decide) (by rw [h15]; decide) (by rw [h15]; rfl) rfl ?_
            refine z_aload_n C d_Waves_news_124 0 rfl rfl ?_
            refine gf_Waves_10 C (zx4 hx 70 rfl) rfl rfl d_Waves_news_125 ?_
            refine gf_Waves_145 C (zlv (zxv hx 0 rfl) 0 rfl) rfl rfl d_Waves_news_128 ?_
            refine gf_Waves_253 C (zlv (zxv hx 0 rfl) 24 rfl) rfl rfl d_Waves_news_131 ?_
            refine z_iload_n C d_Waves_news_134 1 rfl rfl ?_
            obtain ⟨r17, h16, hf⟩ := bd_s hf
            refine z_cVi C kl_Waves_123 rfl (c_Row_get (zrow_v (zxv hx 0 rfl) 33 rfl) h16) (zlv (zxv hx 0 rfl) 33 rfl) rfl rfl rfl (Nat.le_of_ble_eq_true rfl) ⟨(Nat.le_of_ble_eq_true rfl), (Nat.le_of_ble_eq_true rfl)⟩ ⟨(Nat.le_of_ble_eq_true rfl), (Nat.le_of_ble_eq_true rfl)⟩ d_Waves_news_135 ?_
            cases hf
            exact z_iret C rfl (Nat.le_of_ble_eq_true rfl) (Nat.le_of_ble_eq_true rfl) d_Waves_news_138
          · have hf := iff_f hf h15
            by_cases h18 : a1 = (5 : Int32)
            · have hf := iff_t hf h18
              refine z_tin (off := 126) (tgt := 139) C d_Waves_news_13 (by rw [h18]; decide) (by rw [h18]; decide) (by rw [h18]; rfl) rfl ?_
              refine z_aload_n C d_Waves_news_139 0 rfl rfl ?_
              refine gf_Waves_10 C (zx4 hx 70 rfl) rfl rfl d_Waves_news_140 ?_
              refine gf_Waves_145 C (zlv (zxv hx 0 rfl) 0 rfl) rfl rfl d_Waves_news_143 ?_
              refine gf_Waves_256 C (zlv (zxv hx 0 rfl) 24 rfl) rfl rfl d_Waves_news_146 ?_
              refine z_iload_n C d_Waves_news_149 1 rfl rfl ?_
              obtain ⟨r20, h19, hf⟩ := bd_s hf
              refine z_cVi C kl_Waves_123 rfl (c_Row_get (zrow_v (zxv hx 0 rfl) 35 rfl) h19) (zlv (zxv hx 0 rfl) 35 rfl) rfl rfl rfl (Nat.le_of_ble_eq_true rfl) ⟨(Nat.le_of_ble_eq_true rfl), (Nat.le_of_ble_eq_true rfl)⟩ ⟨(Nat.le_of_ble_eq_true rfl), (Nat.le_of_ble_eq_true rfl)⟩ d_Waves_news_150 ?_
              cases hf
              exact z_iret C rfl (Nat.le_of_ble_eq_true rfl) (Nat.le_of_ble_eq_true rfl) d_Waves_news_153
            · have hf := iff_f hf h18
              by_cases h21 : a1 = (6 : Int32)
              · have hf := iff_t hf h21
                refine z_tin (off := 141) (tgt := 154) C d_Waves_news_13 (by rw [h21]; decide) (by rw [h21]; decide) (by rw [h21]; rfl) rfl ?_
                refine z_aload_n C d_Waves_news_154 0 rfl rfl ?_
                refine gf_Waves_10 C (zx4 hx 70 rfl) rfl rfl d_Waves_news_155 ?_
                refine gf_Waves_145 C (zlv (zxv hx 0 rfl) 0 rfl) rfl rfl d_Waves_news_158 ?_
                refine gf_Waves_259 C (zlv (zxv hx 0 rfl) 24 rfl) rfl rfl d_Waves_news_161 ?_
                refine z_iload_n C d_Waves_news_164 1 rfl rfl ?_
                obtain ⟨r23, h22, hf⟩ := bd_s hf
                refine z_cVi C kl_Waves_123 rfl (c_Row_get (zrow_v (zxv hx 0 rfl) 37 rfl) h22) (zlv (zxv hx 0 rfl) 37 rfl) rfl rfl rfl (Nat.le_of_ble_eq_true rfl) ⟨(Nat.le_of_ble_eq_true rfl), (Nat.le_of_ble_eq_true rfl)⟩ ⟨(Nat.le_of_ble_eq_true rfl), (Nat.le_of_ble_eq_true rfl)⟩ d_Waves_news_165 ?_
                cases hf
                exact z_iret C rfl (Nat.le_of_ble_eq_true rfl) (Nat.le_of_ble_eq_true rfl) d_Waves_news_168
              · have hf := iff_f hf h21
                by_cases h24 : a1 = (7 : Int32)
                · have hf := iff_t hf h24
                  refine z_tin (off := 156) (tgt := 169) C d_Waves_news_13 (by rw [h24]; decide) (by rw [h24]; decide) (by rw [h24]; rfl) rfl ?_
                  refine z_aload_n C d_Waves_news_169 0 rfl rfl ?_
                  refine gf_Waves_10 C (zx4 hx 70 rfl) rfl rfl d_Waves_news_170 ?_
                  refine gf_Waves_145 C (zlv (zxv hx 0 rfl) 0 rfl) rfl rfl d_Waves_news_173 ?_
                  refine gf_Waves_262 C (zlv (zxv hx 0 rfl) 24 rfl) rfl rfl d_Waves_news_176 ?_
                  refine z_iload_n C d_Waves_news_179 1 rfl rfl ?_
                  obtain ⟨r26, h25, hf⟩ := bd_s hf
                  refine z_cVi C kl_Waves_123 rfl (c_Row_get (zrow_v (zxv hx 0 rfl) 39 rfl) h25) (zlv (zxv hx 0 rfl) 39 rfl) rfl rfl rfl (Nat.le_of_ble_eq_true rfl) ⟨(Nat.le_of_ble_eq_true rfl), (Nat.le_of_ble_eq_true rfl)⟩ ⟨(Nat.le_of_ble_eq_true rfl), (Nat.le_of_ble_eq_true rfl)⟩ d_Waves_news_180 ?_
                  cases hf
                  exact z_iret C rfl (Nat.le_of_ble_eq_true rfl) (Nat.le_of_ble_eq_true rfl) d_Waves_news_183
                · have hf := iff_f hf h24
                  by_cases h27 : a1 = (8 : Int32)
                  · have hf := iff_t hf h27
                    refine z_tin (off := 171) (tgt := 184) C d_Waves_news_13 (by rw [h27]; decide) (by rw [h27]; decide) (by rw [h27]; rfl) rfl ?_
                    refine z_aload_n C d_Waves_news_184 0 rfl rfl ?_
                    refine gf_Waves_10 C (zx4 hx 70 rfl) rfl rfl d_Waves_news_185 ?_
                    refine gf_Waves_145 C (zlv (zxv hx 0 rfl) 0 rfl) rfl rfl d_Waves_news_188 ?_
                    refine z_iload_n C d_Waves_news_191 1 rfl rfl ?_
                    obtain ⟨r29, h28, hf⟩ := bd_s hf
                    refine z_cVi C kl_Waves_265 rfl (c_Tidings_uncorrectedHouses (zxv hx 0 rfl) h28) (zlv (zxv hx 0 rfl) 24 rfl) rfl rfl rfl (Nat.le_of_ble_eq_true rfl) ⟨(Nat.le_of_ble_eq_true rfl), (Nat.le_of_ble_eq_true rfl)⟩ ⟨(Nat.le_of_ble_eq_true rfl), (Nat.le_of_ble_eq_true rfl)⟩ d_Waves_news_192 ?_
                    cases hf
                    exact z_iret C rfl (Nat.le_of_ble_eq_true rfl) (Nat.le_of_ble_eq_true rfl) d_Waves_news_195
                  · have hf := iff_f hf h27
                    refine z_tout (tgt := 196) C d_Waves_news_13 (ztab_0_8 h3 h6 h9 h12 h15 h18 h21 h24 h27) rfl ?_
                    refine z_aload_n C d_Waves_news_196 0 rfl rfl ?_
                    refine gf_Waves_10 C (zx4 hx 70 rfl) rfl rfl d_Waves_news_197 ?_
                    refine gf_Waves_145 C (zlv (zxv hx 0 rfl) 0 rfl) rfl rfl d_Waves_news_200 ?_
                    refine gf_Waves_268 C (zlv (zxv hx 0 rfl) 24 rfl) rfl rfl d_Waves_news_203 ?_
                    refine z_iload_n C d_Waves_news_206 1 rfl rfl ?_
                    obtain ⟨r31, h30, hf⟩ := bd_s hf
                    refine z_cVi C kl_Waves_123 rfl (c_Row_get (zrow_v (zxv hx 0 rfl) 41 rfl) h30) (zlv (zxv hx 0 rfl) 41 rfl) rfl rfl rfl (Nat.le_of_ble_eq_true rfl) ⟨(Nat.le_of_ble_eq_true rfl), (Nat.le_of_ble_eq_true rfl)⟩ ⟨(Nat.le_of_ble_eq_true rfl), (Nat.le_of_ble_eq_true rfl)⟩ d_Waves_news_207 ?_
                    cases hf
                    exact z_iret C rfl (Nat.le_of_ble_eq_true rfl) (Nat.le_of_ble_eq_true rfl) d_Waves_news_210
abbrev rm_Waves_source : Room := { frames := 7, cells := 0, slots := 0, locals := 113 }
theorem d_Waves_source_0 : decode b_Waves_source 0 = .ok (.aload_n 0, 1) := by decide +kernel
theorem d_Waves_source_1 : decode b_Waves_source 1 = .ok (.iload_n 1, 1) := by decide +kernel
theorem d_Waves_source_2 : decode b_Waves_source 2 = .ok (.invokevirtual 93, 3) := by decide +kernel
theorem d_Waves_source_5 : decode b_Waves_source 5 = .ok (.aload_n 0, 1) := by decide +kernel
theorem d_Waves_source_6 : decode b_Waves_source 6 = .ok (.iload_n 2, 1) := by decide +kernel
theorem d_Waves_source_7 : decode b_Waves_source 7 = .ok (.invokevirtual 238, 3) := by decide +kernel
theorem d_Waves_source_10 : decode b_Waves_source 10 = .ok (.aload_n 0, 1) := by decide +kernel
theorem d_Waves_source_11 : decode b_Waves_source 11 = .ok (.getfield 10, 3) := by decide +kernel
theorem d_Waves_source_14 : decode b_Waves_source 14 = .ok (.getfield 271, 3) := by decide +kernel
theorem d_Waves_source_17 : decode b_Waves_source 17 = .ok (.iload_n 1, 1) := by decide +kernel
theorem d_Waves_source_18 : decode b_Waves_source 18 = .ok (.iload_n 2, 1) := by decide +kernel
theorem d_Waves_source_19 : decode b_Waves_source 19 = .ok (.invokestatic 274, 3) := by decide +kernel
theorem d_Waves_source_22 : decode b_Waves_source 22 = .ok (.invokevirtual 123, 3) := by decide +kernel
theorem d_Waves_source_25 : decode b_Waves_source 25 = .ok (.ireturn, 1) := by decide +kernel
def F_Waves_source (a0 : Int32) (a1 : Int32) (σ : zSt) : Option (Int32) :=
  (F_Waves_checkHouse a0 σ).bind fun _ => (F_Waves_checkNews a1 σ).bind fun _ => (F_Waves_cell a0 a1 σ).bind fun r4 => (F_Row_get 0 55 r4 σ).bind fun r6 => some r6
set_option maxHeartbeats 4000000 in
set_option maxRecDepth 100000 in
theorem c_Waves_source {l : Launch} {G : zLA} (hx : zxl G) {a0 : Int32} {a1 : Int32} {σ : zSt} {r : Int32} (hf : F_Waves_source a0 a1 σ = some r) : zM l G y_Waves_source (zws y_Waves_source b_Waves_source 3 (some .int)) rm_Waves_source [.ref (zad G 4 70), .int a0, .int a1] σ (some (.int r)) σ := by
  refine z_ofM (own := "VillageWaves") (lv := [(0, .ref (zad G 4 70)), (1, .int a0), (2, .int a1)]) (by decide +kernel) rfl rfl (Nat.le_of_ble_eq_true rfl) (fun p e s m args below meth c C => ?_)
  rw [F_Waves_source] at hf
  refine z_aload_n C d_Waves_source_0 0 rfl rfl ?_
  refine z_iload_n C d_Waves_source_1 1 rfl rfl ?_
  obtain ⟨_, h1, hf⟩ := bd_s hf
  refine z_cVv C kl_Waves_93 rfl (c_Waves_checkHouse hx h1) (zx4 hx 70 rfl) rfl rfl rfl (Nat.le_of_ble_eq_true rfl) ⟨(Nat.le_of_ble_eq_true rfl), (Nat.le_of_ble_eq_true rfl)⟩ ⟨(Nat.le_of_ble_eq_true rfl), (Nat.le_of_ble_eq_true rfl)⟩ d_Waves_source_2 ?_
  refine z_aload_n C d_Waves_source_5 0 rfl rfl ?_
  refine z_iload_n C d_Waves_source_6 2 rfl rfl ?_
  obtain ⟨_, h2, hf⟩ := bd_s hf
  refine z_cVv C kl_Waves_238 rfl (c_Waves_checkNews hx h2) (zx4 hx 70 rfl) rfl rfl rfl (Nat.le_of_ble_eq_true rfl) ⟨(Nat.le_of_ble_eq_true rfl), (Nat.le_of_ble_eq_true rfl)⟩ ⟨(Nat.le_of_ble_eq_true rfl), (Nat.le_of_ble_eq_true rfl)⟩ d_Waves_source_7 ?_
  refine z_aload_n C d_Waves_source_10 0 rfl rfl ?_
  refine gf_Waves_10 C (zx4 hx 70 rfl) rfl rfl d_Waves_source_11 ?_
  refine gf_Waves_271 C (zlv (zxv hx 0 rfl) 0 rfl) rfl rfl d_Waves_source_14 ?_
  refine z_iload_n C d_Waves_source_17 1 rfl rfl ?_
  refine z_iload_n C d_Waves_source_18 2 rfl rfl ?_
  obtain ⟨r4, h3, hf⟩ := bd_s hf
  refine z_cSi C kl_Waves_274 (c_Waves_cell h3) rfl rfl (Nat.le_of_ble_eq_true rfl) ⟨(Nat.le_of_ble_eq_true rfl), (Nat.le_of_ble_eq_true rfl)⟩ ⟨(Nat.le_of_ble_eq_true rfl), (Nat.le_of_ble_eq_true rfl)⟩ d_Waves_source_19 ?_
  obtain ⟨r6, h5, hf⟩ := bd_s hf
  refine z_cVi C kl_Waves_123 rfl (c_Row_get (zrow_v (zxv hx 0 rfl) 55 rfl) h5) (zlv (zxv hx 0 rfl) 55 rfl) rfl rfl rfl (Nat.le_of_ble_eq_true rfl) ⟨(Nat.le_of_ble_eq_true rfl), (Nat.le_of_ble_eq_true rfl)⟩ ⟨(Nat.le_of_ble_eq_true rfl), (Nat.le_of_ble_eq_true rfl)⟩ d_Waves_source_22 ?_
  cases hf
  exact z_iret C rfl (Nat.le_of_ble_eq_true rfl) (Nat.le_of_ble_eq_true rfl) d_Waves_source_25
abbrev rm_Waves_owes : Room := { frames := 7, cells := 0, slots := 0, locals := 113 }
theorem d_Waves_owes_0 : decode b_Waves_owes 0 = .ok (.aload_n 0, 1) := by decide +kernel
theorem d_Waves_owes_1 : decode b_Waves_owes 1 = .ok (.iload_n 1, 1) := by decide +kernel
theorem d_Waves_owes_2 : decode b_Waves_owes 2 = .ok (.invokevirtual 93, 3) := by decide +kernel
theorem d_Waves_owes_5 : decode b_Waves_owes 5 = .ok (.aload_n 0, 1) := by decide +kernel
theorem d_Waves_owes_6 : decode b_Waves_owes 6 = .ok (.iload_n 2, 1) := by decide +kernel
theorem d_Waves_owes_7 : decode b_Waves_owes 7 = .ok (.invokevirtual 238, 3) := by decide +kernel
theorem d_Waves_owes_10 : decode b_Waves_owes 10 = .ok (.aload_n 0, 1) := by decide +kernel
theorem d_Waves_owes_11 : decode b_Waves_owes 11 = .ok (.getfield 10, 3) := by decide +kernel
theorem d_Waves_owes_14 : decode b_Waves_owes 14 = .ok (.iload_n 1, 1) := by decide +kernel
theorem d_Waves_owes_15 : decode b_Waves_owes 15 = .ok (.iload_n 2, 1) := by decide +kernel
theorem d_Waves_owes_16 : decode b_Waves_owes 16 = .ok (.invokevirtual 277, 3) := by decide +kernel
theorem d_Waves_owes_19 : decode b_Waves_owes 19 = .ok (.ireturn, 1) := by decide +kernel
def F_Waves_owes (a0 : Int32) (a1 : Int32) (σ : zSt) : Option (Int32) :=
  (F_Waves_checkHouse a0 σ).bind fun _ => (F_Waves_checkNews a1 σ).bind fun _ => (F_Village_owedBy 0 a0 a1 σ).bind fun r4 => some r4
set_option maxHeartbeats 4000000 in
set_option maxRecDepth 100000 in
theorem c_Waves_owes {l : Launch} {G : zLA} (hx : zxl G) {a0 : Int32} {a1 : Int32} {σ : zSt} {r : Int32} (hf : F_Waves_owes a0 a1 σ = some r) : zM l G y_Waves_owes (zws y_Waves_owes b_Waves_owes 3 (some .int)) rm_Waves_owes [.ref (zad G 4 70), .int a0, .int a1] σ (some (.int r)) σ := by
  refine z_ofM (own := "VillageWaves") (lv := [(0, .ref (zad G 4 70)), (1, .int a0), (2, .int a1)]) (by decide +kernel) rfl rfl (Nat.le_of_ble_eq_true rfl) (fun p e s m args below meth c C => ?_)
  rw [F_Waves_owes] at hf
  refine z_aload_n C d_Waves_owes_0 0 rfl rfl ?_
  refine z_iload_n C d_Waves_owes_1 1 rfl rfl ?_
  obtain ⟨_, h1, hf⟩ := bd_s hf
  refine z_cVv C kl_Waves_93 rfl (c_Waves_checkHouse hx h1) (zx4 hx 70 rfl) rfl rfl rfl (Nat.le_of_ble_eq_true rfl) ⟨(Nat.le_of_ble_eq_true rfl), (Nat.le_of_ble_eq_true rfl)⟩ ⟨(Nat.le_of_ble_eq_true rfl), (Nat.le_of_ble_eq_true rfl)⟩ d_Waves_owes_2 ?_
  refine z_aload_n C d_Waves_owes_5 0 rfl rfl ?_
  refine z_iload_n C d_Waves_owes_6 2 rfl rfl ?_
  obtain ⟨_, h2, hf⟩ := bd_s hf
  refine z_cVv C kl_Waves_238 rfl (c_Waves_checkNews hx h2) (zx4 hx 70 rfl) rfl rfl rfl (Nat.le_of_ble_eq_true rfl) ⟨(Nat.le_of_ble_eq_true rfl), (Nat.le_of_ble_eq_true rfl)⟩ ⟨(Nat.le_of_ble_eq_true rfl), (Nat.le_of_ble_eq_true rfl)⟩ d_Waves_owes_7 ?_
  refine z_aload_n C d_Waves_owes_10 0 rfl rfl ?_
  refine gf_Waves_10 C (zx4 hx 70 rfl) rfl rfl d_Waves_owes_11 ?_
  refine z_iload_n C d_Waves_owes_14 1 rfl rfl ?_
  refine z_iload_n C d_Waves_owes_15 2 rfl rfl ?_
  obtain ⟨r4, h3, hf⟩ := bd_s hf
  refine z_cVi C kl_Waves_277 rfl (c_Village_owedBy (zxv hx 0 rfl) h3) (zlv (zxv hx 0 rfl) 0 rfl) rfl rfl rfl (Nat.le_of_ble_eq_true rfl) ⟨(Nat.le_of_ble_eq_true rfl), (Nat.le_of_ble_eq_true rfl)⟩ ⟨(Nat.le_of_ble_eq_true rfl), (Nat.le_of_ble_eq_true rfl)⟩ d_Waves_owes_16 ?_
  cases hf
  exact z_iret C rfl (Nat.le_of_ble_eq_true rfl) (Nat.le_of_ble_eq_true rfl) d_Waves_owes_19
abbrev rm_Waves_spoken : Room := { frames := 7, cells := 0, slots := 0, locals := 114 }
theorem d_Waves_spoken_0 : decode b_Waves_spoken 0 = .ok (.iload_n 1, 1) := by decide +kernel
theorem d_Waves_spoken_1 : decode b_Waves_spoken 1 = .ok (.ifCond .ge 14, 3) := by decide +kernel
theorem d_Waves_spoken_4 : decode b_Waves_spoken 4 = .ok (.new 99, 3) := by decide +kernel
theorem d_Waves_spoken_7 : decode b_Waves_spoken 7 = .ok (.dup, 1) := by decide +kernel
theorem d_Waves_spoken_8 : decode b_Waves_spoken 8 = .ok (.ldc_w 280, 3) := by decide +kernel
theorem d_Waves_spoken_11 : decode b_Waves_spoken 11 = .ok (.invokespecial 103, 3) := by decide +kernel
theorem d_Waves_spoken_14 : decode b_Waves_spoken 14 = .ok (.athrow, 1) := by decide +kernel
theorem d_Waves_spoken_15 : decode b_Waves_spoken 15 = .ok (.iload_n 2, 1) := by decide +kernel
theorem d_Waves_spoken_16 : decode b_Waves_spoken 16 = .ok (.iconst 0, 1) := by decide +kernel
theorem d_Waves_spoken_17 : decode b_Waves_spoken 17 = .ok (.iconst 5, 1) := by decide +kernel
theorem d_Waves_spoken_18 : decode b_Waves_spoken 18 = .ok (.invokestatic 56, 3) := by decide +kernel
theorem d_Waves_spoken_21 : decode b_Waves_spoken 21 = .ok (.aload_n 0, 1) := by decide +kernel
theorem d_Waves_spoken_22 : decode b_Waves_spoken 22 = .ok (.getfield 10, 3) := by decide +kernel
theorem d_Waves_spoken_25 : decode b_Waves_spoken 25 = .ok (.getfield 155, 3) := by decide +kernel
theorem d_Waves_spoken_28 : decode b_Waves_spoken 28 = .ok (.iload_n 1, 1) := by decide +kernel
theorem d_Waves_spoken_29 : decode b_Waves_spoken 29 = .ok (.iload_n 2, 1) := by decide +kernel
theorem d_Waves_spoken_30 : decode b_Waves_spoken 30 = .ok (.invokevirtual 282, 3) := by decide +kernel
theorem d_Waves_spoken_33 : decode b_Waves_spoken 33 = .ok (.ireturn, 1) := by decide +kernel
def F_Waves_spoken (a0 : Int32) (a1 : Int32) (σ : zSt) : Option (Int32) :=
  if 0 ≤ a0 then ((F_Waves_checkWithin a1 (0 : Int32) (5 : Int32) σ).bind fun _ => (F_Journal_fact 0 a0 a1 σ).bind fun r3 => some r3) else none
set_option maxHeartbeats 4000000 in
set_option maxRecDepth 100000 in
theorem c_Waves_spoken {l : Launch} {G : zLA} (hx : zxl G) {a0 : Int32} {a1 : Int32} {σ : zSt} {r : Int32} (hf : F_Waves_spoken a0 a1 σ = some r) : zM l G y_Waves_spoken (zws y_Waves_spoken b_Waves_spoken 3 (some .int)) rm_Waves_spoken [.ref (zad G 4 70), .int a0, .int a1] σ (some (.int r)) σ := by
  refine z_ofM (own := "VillageWaves") (lv := [(0, .ref (zad G 4 70)), (1, .int a0), (2, .int a1)]) (by decide +kernel) rfl rfl (Nat.le_of_ble_eq_true rfl) (fun p e s m args below meth c C => ?_)
  rw [F_Waves_spoken] at hf
  refine z_iload_n C d_Waves_spoken_0 1 rfl rfl ?_
  refine z_if_ge (tgt := 15) C d_Waves_spoken_1 rfl (fun h4 => ?_) (fun h4 => ?_)
  · have hf := iff_t hf h4
    refine z_iload_n C d_Waves_spoken_15 2 rfl rfl ?_
    refine z_iconst C d_Waves_spoken_16 zki_0 ?_
    refine z_iconst C d_Waves_spoken_17 zki_5 ?_
    obtain ⟨_, h1, hf⟩ := bd_s hf
    refine z_cSv C kl_Waves_56 (c_Waves_checkWithin h1) rfl rfl (Nat.le_of_ble_eq_true rfl) ⟨(Nat.le_of_ble_eq_true rfl), (Nat.le_of_ble_eq_true rfl)⟩ ⟨(Nat.le_of_ble_eq_true rfl), (Nat.le_of_ble_eq_true rfl)⟩ d_Waves_spoken_18 ?_
    refine z_aload_n C d_Waves_spoken_21 0 rfl rfl ?_
    refine gf_Waves_10 C (zx4 hx 70 rfl) rfl rfl d_Waves_spoken_22 ?_
    refine gf_Waves_155 C (zlv (zxv hx 0 rfl) 0 rfl) rfl rfl d_Waves_spoken_25 ?_
    refine z_iload_n C d_Waves_spoken_28 1 rfl rfl ?_
    refine z_iload_n C d_Waves_spoken_29 2 rfl rfl ?_
    obtain ⟨r3, h2, hf⟩ := bd_s hf
    refine z_cVi C kl_Waves_282 rfl (c_Journal_fact (zxv hx 0 rfl) h2) (zlv (zxv hx 0 rfl) 59 rfl) rfl rfl rfl (Nat.le_of_ble_eq_true rfl) ⟨(Nat.le_of_ble_eq_true rfl), (Nat.le_of_ble_eq_true rfl)⟩ ⟨(Nat.le_of_ble_eq_true rfl), (Nat.le_of_ble_eq_true rfl)⟩ d_Waves_spoken_30 ?_
    cases hf
    exact z_iret C rfl (Nat.le_of_ble_eq_true rfl) (Nat.le_of_ble_eq_true rfl) d_Waves_spoken_33
  · have hf := iff_f hf h4
    cases hf
abbrev rm_Waves_tell : Room := { frames := 7, cells := 0, slots := 0, locals := 114 }
theorem d_Waves_tell_0 : decode b_Waves_tell 0 = .ok (.aload_n 0, 1) := by decide +kernel
theorem d_Waves_tell_1 : decode b_Waves_tell 1 = .ok (.iload_n 1, 1) := by decide +kernel
theorem d_Waves_tell_2 : decode b_Waves_tell 2 = .ok (.invokevirtual 93, 3) := by decide +kernel
theorem d_Waves_tell_5 : decode b_Waves_tell 5 = .ok (.iload_n 2, 1) := by decide +kernel
theorem d_Waves_tell_6 : decode b_Waves_tell 6 = .ok (.iconst 0, 1) := by decide +kernel
theorem d_Waves_tell_7 : decode b_Waves_tell 7 = .ok (.bipush 99, 2) := by decide +kernel
theorem d_Waves_tell_9 : decode b_Waves_tell 9 = .ok (.invokestatic 56, 3) := by decide +kernel
theorem d_Waves_tell_12 : decode b_Waves_tell 12 = .ok (.aload_n 0, 1) := by decide +kernel
theorem d_Waves_tell_13 : decode b_Waves_tell 13 = .ok (.getfield 10, 3) := by decide +kernel
theorem d_Waves_tell_16 : decode b_Waves_tell 16 = .ok (.getfield 145, 3) := by decide +kernel
theorem d_Waves_tell_19 : decode b_Waves_tell 19 = .ok (.invokevirtual 285, 3) := by decide +kernel
theorem d_Waves_tell_22 : decode b_Waves_tell 22 = .ok (.ifCond .eq 6, 3) := by decide +kernel
theorem d_Waves_tell_25 : decode b_Waves_tell 25 = .ok (.bipush (-2), 2) := by decide +kernel
theorem d_Waves_tell_27 : decode b_Waves_tell 27 = .ok (.ireturn, 1) := by decide +kernel
theorem d_Waves_tell_28 : decode b_Waves_tell 28 = .ok (.aload_n 0, 1) := by decide +kernel
theorem d_Waves_tell_29 : decode b_Waves_tell 29 = .ok (.getfield 10, 3) := by decide +kernel
theorem d_Waves_tell_32 : decode b_Waves_tell 32 = .ok (.iload_n 1, 1) := by decide +kernel
theorem d_Waves_tell_33 : decode b_Waves_tell 33 = .ok (.iload_n 2, 1) := by decide +kernel
theorem d_Waves_tell_34 : decode b_Waves_tell 34 = .ok (.invokevirtual 286, 3) := by decide +kernel
theorem d_Waves_tell_37 : decode b_Waves_tell 37 = .ok (.ireturn, 1) := by decide +kernel
def F_Waves_tell (a0 : Int32) (a1 : Int32) (σ : zSt) : Option (Int32 × zSt) :=
  (F_Waves_checkHouse a0 σ).bind fun _ => (F_Waves_checkWithin a1 (0 : Int32) (99 : Int32) σ).bind fun _ => (F_Tidings_isFull 0 σ).bind fun r4 => if r4 = 0 then (bd2 (F_Village_addNews 0 a0 a1 σ) fun r6 σ7 => some (r6, σ7)) else some ((-2 : Int32), σ)
set_option maxHeartbeats 4000000 in
set_option maxRecDepth 100000 in
theorem c_Waves_tell {l : Launch} {G : zLA} (hx : zxl G) {a0 : Int32} {a1 : Int32} {σ : zSt} {r : Int32} {σ' : zSt} (hf : F_Waves_tell a0 a1 σ = some (r, σ')) : zM l G y_Waves_tell (zws y_Waves_tell b_Waves_tell 3 (some .int)) rm_Waves_tell [.ref (zad G 4 70), .int a0, .int a1] σ (some (.int r)) σ' := by
  refine z_ofM (own := "VillageWaves") (lv := [(0, .ref (zad G 4 70)), (1, .int a0), (2, .int a1)]) (by decide +kernel) rfl rfl (Nat.le_of_ble_eq_true rfl) (fun p e s m args below meth c C => ?_)
  rw [F_Waves_tell] at hf
  refine z_aload_n C d_Waves_tell_0 0 rfl rfl ?_
  refine z_iload_n C d_Waves_tell_1 1 rfl rfl ?_
  obtain ⟨_, h1, hf⟩ := bd_s hf
  refine z_cVv C kl_Waves_93 rfl (c_Waves_checkHouse hx h1) (zx4 hx 70 rfl) rfl rfl rfl (Nat.le_of_ble_eq_true rfl) ⟨(Nat.le_of_ble_eq_true rfl), (Nat.le_of_ble_eq_true rfl)⟩ ⟨(Nat.le_of_ble_eq_true rfl), (Nat.le_of_ble_eq_true rfl)⟩ d_Waves_tell_2 ?_
  refine z_iload_n C d_Waves_tell_5 2 rfl rfl ?_
  refine z_iconst C d_Waves_tell_6 zki_0 ?_
  refine z_bipush C d_Waves_tell_7 zkb_99 ?_
  obtain ⟨_, h2, hf⟩ := bd_s hf
  refine z_cSv C kl_Waves_56 (c_Waves_checkWithin h2) rfl rfl (Nat.le_of_ble_eq_true rfl) ⟨(Nat.le_of_ble_eq_true rfl), (Nat.le_of_ble_eq_true rfl)⟩ ⟨(Nat.le_of_ble_eq_true rfl), (Nat.le_of_ble_eq_true rfl)⟩ d_Waves_tell_9 ?_
  refine z_aload_n C d_Waves_tell_12 0 rfl rfl ?_
  refine gf_Waves_10 C (zx4 hx 70 rfl) rfl rfl d_Waves_tell_13 ?_
  refine gf_Waves_145 C (zlv (zxv hx 0 rfl) 0 rfl) rfl rfl d_Waves_tell_16 ?_
  obtain ⟨r4, h3, hf⟩ := bd_s hf
  refine z_cVi C kl_Waves_285 rfl (c_Tidings_isFull (zxv hx 0 rfl) h3) (zlv (zxv hx 0 rfl) 24 rfl) rfl rfl rfl (Nat.le_of_ble_eq_true rfl) ⟨(Nat.le_of_ble_eq_true rfl), (Nat.le_of_ble_eq_true rfl)⟩ ⟨(Nat.le_of_ble_eq_true rfl), (Nat.le_of_ble_eq_true rfl)⟩ d_Waves_tell_19 ?_
  refine z_if_eq (tgt := 28) C d_Waves_tell_22 rfl (fun h8 => ?_) (fun h8 => ?_)
  · have hf := iff_t hf h8
    refine z_aload_n C d_Waves_tell_28 0 rfl rfl ?_
    refine gf_Waves_10 C (zx4 hx 70 rfl) rfl rfl d_Waves_tell_29 ?_
    refine z_iload_n C d_Waves_tell_32 1 rfl rfl ?_
    refine z_iload_n C d_Waves_tell_33 2 rfl rfl ?_
    obtain ⟨r6, σ7, h5, hf⟩ := bd2_s hf
    refine z_cVi C kl_Waves_286 rfl (c_Village_addNews (zxv hx 0 rfl) h5) (zlv (zxv hx 0 rfl) 0 rfl) rfl rfl rfl (Nat.le_of_ble_eq_true rfl) ⟨(Nat.le_of_ble_eq_true rfl), (Nat.le_of_ble_eq_true rfl)⟩ ⟨(Nat.le_of_ble_eq_true rfl), (Nat.le_of_ble_eq_true rfl)⟩ d_Waves_tell_34 ?_
    cases hf
    exact z_iret C rfl (Nat.le_of_ble_eq_true rfl) (Nat.le_of_ble_eq_true rfl) d_Waves_tell_37
  · have hf := iff_f hf h8
    refine z_bipush C d_Waves_tell_25 zkb_m2 ?_
    cases hf
    exact z_iret C rfl (Nat.le_of_ble_eq_true rfl) (Nat.le_of_ble_eq_true rfl) d_Waves_tell_27
abbrev rm_Waves_correct : Room := { frames := 7, cells := 0, slots := 0, locals := 114 }
theorem d_Waves_correct_0 : decode b_Waves_correct 0 = .ok (.aload_n 0, 1) := by decide +kernel
theorem d_Waves_correct_1 : decode b_Waves_correct 1 = .ok (.iload_n 1, 1) := by decide +kernel
theorem d_Waves_correct_2 : decode b_Waves_correct 2 = .ok (.invokevirtual 93, 3) := by decide +kernel
theorem d_Waves_correct_5 : decode b_Waves_correct 5 = .ok (.aload_n 0, 1) := by decide +kernel
theorem d_Waves_correct_6 : decode b_Waves_correct 6 = .ok (.iload_n 2, 1) := by decide +kernel
theorem d_Waves_correct_7 : decode b_Waves_correct 7 = .ok (.invokevirtual 238, 3) := by decide +kernel
theorem d_Waves_correct_10 : decode b_Waves_correct 10 = .ok (.iload_n 3, 1) := by decide +kernel
theorem d_Waves_correct_11 : decode b_Waves_correct 11 = .ok (.iconst 0, 1) := by decide +kernel
theorem d_Waves_correct_12 : decode b_Waves_correct 12 = .ok (.bipush 99, 2) := by decide +kernel
theorem d_Waves_correct_14 : decode b_Waves_correct 14 = .ok (.invokestatic 56, 3) := by decide +kernel
theorem d_Waves_correct_17 : decode b_Waves_correct 17 = .ok (.aload_n 0, 1) := by decide +kernel
theorem d_Waves_correct_18 : decode b_Waves_correct 18 = .ok (.getfield 10, 3) := by decide +kernel
theorem d_Waves_correct_21 : decode b_Waves_correct 21 = .ok (.getfield 145, 3) := by decide +kernel
theorem d_Waves_correct_24 : decode b_Waves_correct 24 = .ok (.getfield 259, 3) := by decide +kernel
theorem d_Waves_correct_27 : decode b_Waves_correct 27 = .ok (.iload_n 2, 1) := by decide +kernel
theorem d_Waves_correct_28 : decode b_Waves_correct 28 = .ok (.invokevirtual 123, 3) := by decide +kernel
theorem d_Waves_correct_31 : decode b_Waves_correct 31 = .ok (.iload_n 1, 1) := by decide +kernel
theorem d_Waves_correct_32 : decode b_Waves_correct 32 = .ok (.invokestatic 289, 3) := by decide +kernel
theorem d_Waves_correct_35 : decode b_Waves_correct 35 = .ok (.ifCond .ne 6, 3) := by decide +kernel
theorem d_Waves_correct_38 : decode b_Waves_correct 38 = .ok (.bipush (-3), 2) := by decide +kernel
theorem d_Waves_correct_40 : decode b_Waves_correct 40 = .ok (.ireturn, 1) := by decide +kernel
theorem d_Waves_correct_41 : decode b_Waves_correct 41 = .ok (.aload_n 0, 1) := by decide +kernel
theorem d_Waves_correct_42 : decode b_Waves_correct 42 = .ok (.getfield 10, 3) := by decide +kernel
theorem d_Waves_correct_45 : decode b_Waves_correct 45 = .ok (.getfield 145, 3) := by decide +kernel
theorem d_Waves_correct_48 : decode b_Waves_correct 48 = .ok (.iload_n 2, 1) := by decide +kernel
theorem d_Waves_correct_49 : decode b_Waves_correct 49 = .ok (.invokevirtual 292, 3) := by decide +kernel
theorem d_Waves_correct_52 : decode b_Waves_correct 52 = .ok (.ifCond .eq 6, 3) := by decide +kernel
theorem d_Waves_correct_55 : decode b_Waves_correct 55 = .ok (.bipush (-4), 2) := by decide +kernel
theorem d_Waves_correct_57 : decode b_Waves_correct 57 = .ok (.ireturn, 1) := by decide +kernel
theorem d_Waves_correct_58 : decode b_Waves_correct 58 = .ok (.aload_n 0, 1) := by decide +kernel
theorem d_Waves_correct_59 : decode b_Waves_correct 59 = .ok (.getfield 10, 3) := by decide +kernel
theorem d_Waves_correct_62 : decode b_Waves_correct 62 = .ok (.iload_n 1, 1) := by decide +kernel
theorem d_Waves_correct_63 : decode b_Waves_correct 63 = .ok (.iload_n 2, 1) := by decide +kernel
theorem d_Waves_correct_64 : decode b_Waves_correct 64 = .ok (.iload_n 3, 1) := by decide +kernel
theorem d_Waves_correct_65 : decode b_Waves_correct 65 = .ok (.invokevirtual 296, 3) := by decide +kernel
theorem d_Waves_correct_68 : decode b_Waves_correct 68 = .ok (.aload_n 0, 1) := by decide +kernel
theorem d_Waves_correct_69 : decode b_Waves_correct 69 = .ok (.getfield 10, 3) := by decide +kernel
theorem d_Waves_correct_72 : decode b_Waves_correct 72 = .ok (.iload_n 1, 1) := by decide +kernel
theorem d_Waves_correct_73 : decode b_Waves_correct 73 = .ok (.iload_n 2, 1) := by decide +kernel
theorem d_Waves_correct_74 : decode b_Waves_correct 74 = .ok (.invokevirtual 277, 3) := by decide +kernel
theorem d_Waves_correct_77 : decode b_Waves_correct 77 = .ok (.invokestatic 299, 3) := by decide +kernel
theorem d_Waves_correct_80 : decode b_Waves_correct 80 = .ok (.ireturn, 1) := by decide +kernel
def F_Waves_correct (a0 : Int32) (a1 : Int32) (a2 : Int32) (σ : zSt) : Option (Int32 × zSt) :=
  (F_Waves_checkHouse a0 σ).bind fun _ => (F_Waves_checkNews a1 σ).bind fun _ => (F_Waves_checkWithin a2 (0 : Int32) (99 : Int32) σ).bind fun _ => (F_Row_get 0 37 a1 σ).bind fun r5 => (F_Waves_contains r5 a0 σ).bind fun r7 => if r7 = 0 then some ((-3 : Int32), σ) else ((F_Tidings_isCorrected 0 a1 σ).bind fun r9 => if r9 = 0 then ((F_Village_addCorrection 0 a0 a1 a2 σ).bind fun σ11 => (F_Village_owedBy 0 a0 a1 σ11).bind fun r13 => (F_Integer_bitCount r13).bind fun r15 => some (r15, σ11)) else some ((-4 : Int32), σ))
set_option maxHeartbeats 4000000 in
set_option maxRecDepth 100000 in
theorem c_Waves_correct {l : Launch} {G : zLA} (hx : zxl G) {a0 : Int32} {a1 : Int32} {a2 : Int32} {σ : zSt} {r : Int32} {σ' : zSt} (hf : F_Waves_correct a0 a1 a2 σ = some (r, σ')) : zM l G y_Waves_correct (zws y_Waves_correct b_Waves_correct 4 (some .int)) rm_Waves_correct [.ref (zad G 4 70), .int a0, .int a1, .int a2] σ (some (.int r)) σ' := by
  refine z_ofM (own := "VillageWaves") (lv := [(0, .ref (zad G 4 70)), (1, .int a0), (2, .int a1), (3, .int a2)]) (by decide +kernel) rfl rfl (Nat.le_of_ble_eq_true rfl) (fun p e s m args below meth c C => ?_)
  rw [F_Waves_correct] at hf
  refine z_aload_n C d_Waves_correct_0 0 rfl rfl ?_
  refine z_iload_n C d_Waves_correct_1 1 rfl rfl ?_
  obtain ⟨_, h1, hf⟩ := bd_s hf
  refine z_cVv C kl_Waves_93 rfl (c_Waves_checkHouse hx h1) (zx4 hx 70 rfl) rfl rfl rfl (Nat.le_of_ble_eq_true rfl) ⟨(Nat.le_of_ble_eq_true rfl), (Nat.le_of_ble_eq_true rfl)⟩ ⟨(Nat.le_of_ble_eq_true rfl), (Nat.le_of_ble_eq_true rfl)⟩ d_Waves_correct_2 ?_
  refine z_aload_n C d_Waves_correct_5 0 rfl rfl ?_
  refine z_iload_n C d_Waves_correct_6 2 rfl rfl ?_
  obtain ⟨_, h2, hf⟩ := bd_s hf
  refine z_cVv C kl_Waves_238 rfl (c_Waves_checkNews hx h2) (zx4 hx 70 rfl) rfl rfl rfl (Nat.le_of_ble_eq_true rfl) ⟨(Nat.le_of_ble_eq_true rfl), (Nat.le_of_ble_eq_true rfl)⟩ ⟨(Nat.le_of_ble_eq_true rfl), (Nat.le_of_ble_eq_true rfl)⟩ d_Waves_correct_7 ?_
  refine z_iload_n C d_Waves_correct_10 3 rfl rfl ?_
  refine z_iconst C d_Waves_correct_11 zki_0 ?_
  refine z_bipush C d_Waves_correct_12 zkb_99 ?_
  obtain ⟨_, h3, hf⟩ := bd_s hf
  refine z_cSv C kl_Waves_56 (c_Waves_checkWithin h3) rfl rfl (Nat.le_of_ble_eq_true rfl) ⟨(Nat.le_of_ble_eq_true rfl), (Nat.le_of_ble_eq_true rfl)⟩ ⟨(Nat.le_of_ble_eq_true rfl), (Nat.le_of_ble_eq_true rfl)⟩ d_Waves_correct_14 ?_
  refine z_aload_n C d_Waves_correct_17 0 rfl rfl ?_
  refine gf_Waves_10 C (zx4 hx 70 rfl) rfl rfl d_Waves_correct_18 ?_
  refine gf_Waves_145 C (zlv (zxv hx 0 rfl) 0 rfl) rfl rfl d_Waves_correct_21 ?_
  refine gf_Waves_259 C (zlv (zxv hx 0 rfl) 24 rfl) rfl rfl d_Waves_correct_24 ?_
  refine z_iload_n C d_Waves_correct_27 2 rfl rfl ?_
  obtain ⟨r5, h4, hf⟩ := bd_s hf
  refine z_cVi C kl_Waves_123 rfl (c_Row_get (zrow_v (zxv hx 0 rfl) 37 rfl) h4) (zlv (zxv hx 0 rfl) 37 rfl) rfl rfl rfl (Nat.le_of_ble_eq_true rfl) ⟨(Nat.le_of_ble_eq_true rfl), (Nat.le_of_ble_eq_true rfl)⟩ ⟨(Nat.le_of_ble_eq_true rfl), (Nat.le_of_ble_eq_true rfl)⟩ d_Waves_correct_28 ?_
  refine z_iload_n C d_Waves_correct_31 1 rfl rfl ?_
  obtain ⟨r7, h6, hf⟩ := bd_s hf
  refine z_cSi C kl_Waves_289 (c_Waves_contains h6) rfl rfl (Nat.le_of_ble_eq_true rfl) ⟨(Nat.le_of_ble_eq_true rfl), (Nat.le_of_ble_eq_true rfl)⟩ ⟨(Nat.le_of_ble_eq_true rfl), (Nat.le_of_ble_eq_true rfl)⟩ d_Waves_correct_32 ?_
  refine z_if_ne (tgt := 41) C d_Waves_correct_35 rfl (fun h17 => ?_) (fun h17 => ?_)
  · have hf := iff_f hf h17
    refine z_aload_n C d_Waves_correct_41 0 rfl rfl ?_
    refine gf_Waves_10 C (zx4 hx 70 rfl) rfl rfl d_Waves_correct_42 ?_
    refine gf_Waves_145 C (zlv (zxv hx 0 rfl) 0 rfl) rfl rfl d_Waves_correct_45 ?_
    refine z_iload_n C d_Waves_correct_48 2 rfl rfl ?_
    obtain ⟨r9, h8, hf⟩ := bd_s hf
    refine z_cVi C kl_Waves_292 rfl (c_Tidings_isCorrected (zxv hx 0 rfl) h8) (zlv (zxv hx 0 rfl) 24 rfl) rfl rfl rfl (Nat.le_of_ble_eq_true rfl) ⟨(Nat.le_of_ble_eq_true rfl), (Nat.le_of_ble_eq_true rfl)⟩ ⟨(Nat.le_of_ble_eq_true rfl), (Nat.le_of_ble_eq_true rfl)⟩ d_Waves_correct_49 ?_
    refine z_if_eq (tgt := 58) C d_Waves_correct_52 rfl (fun h16 => ?_) (fun h16 => ?_)
    · have hf := iff_t hf h16
      refine z_aload_n C d_Waves_correct_58 0 rfl rfl ?_
      refine gf_Waves_10 C (zx4 hx 70 rfl) rfl rfl d_Waves_correct_59 ?_
      refine z_iload_n C d_Waves_correct_62 1 rfl rfl ?_
      refine z_iload_n C d_Waves_correct_63 2 rfl rfl ?_
      refine z_iload_n C d_Waves_correct_64 3 rfl rfl ?_
      obtain ⟨σ11, h10, hf⟩ := bd_s hf
      refine z_cVv C kl_Waves_296 rfl (c_Village_addCorrection (zxv hx 0 rfl) h10) (zlv (zxv hx 0 rfl) 0 rfl) rfl rfl rfl (Nat.le_of_ble_eq_true rfl) ⟨(Nat.le_of_ble_eq_true rfl), (Nat.le_of_ble_eq_true rfl)⟩ ⟨(Nat.le_of_ble_eq_true rfl), (Nat.le_of_ble_eq_true rfl)⟩ d_Waves_correct_65 ?_
      refine z_aload_n C d_Waves_correct_68 0 rfl rfl ?_
      refine gf_Waves_10 C (zx4 hx 70 rfl) rfl rfl d_Waves_correct_69 ?_
      refine z_iload_n C d_Waves_correct_72 1 rfl rfl ?_
      refine z_iload_n C d_Waves_correct_73 2 rfl rfl ?_
      obtain ⟨r13, h12, hf⟩ := bd_s hf
      refine z_cVi C kl_Waves_277 rfl (c_Village_owedBy (zxv hx 0 rfl) h12) (zlv (zxv hx 0 rfl) 0 rfl) rfl rfl rfl (Nat.le_of_ble_eq_true rfl) ⟨(Nat.le_of_ble_eq_true rfl), (Nat.le_of_ble_eq_true rfl)⟩ ⟨(Nat.le_of_ble_eq_true rfl), (Nat.le_of_ble_eq_true rfl)⟩ d_Waves_correct_74 ?_
      obtain ⟨r15, h14, hf⟩ := bd_s hf
      refine z_cSi C kl_Waves_299 (c_Integer_bitCount h14) rfl rfl (Nat.le_of_ble_eq_true rfl) ⟨(Nat.le_of_ble_eq_true rfl), (Nat.le_of_ble_eq_true rfl)⟩ ⟨(Nat.le_of_ble_eq_true rfl), (Nat.le_of_ble_eq_true rfl)⟩ d_Waves_correct_77 ?_
      cases hf
      exact z_iret C rfl (Nat.le_of_ble_eq_true rfl) (Nat.le_of_ble_eq_true rfl) d_Waves_correct_80
    · have hf := iff_f hf h16
      refine z_bipush C d_Waves_correct_55 zkb_m4 ?_
      cases hf
      exact z_iret C rfl (Nat.le_of_ble_eq_true rfl) (Nat.le_of_ble_eq_true rfl) d_Waves_correct_57
  · have hf := iff_t hf h17
    refine z_bipush C d_Waves_correct_38 zkb_m3 ?_
    cases hf
    exact z_iret C rfl (Nat.le_of_ble_eq_true rfl) (Nat.le_of_ble_eq_true rfl) d_Waves_correct_40
abbrev rm_Waves_run : Room := { frames := 7, cells := 0, slots := 0, locals := 142 }
theorem d_Waves_run_0 : decode b_Waves_run 0 = .ok (.iload_n 1, 1) := by decide +kernel
theorem d_Waves_run_1 : decode b_Waves_run 1 = .ok (.iconst 1, 1) := by decide +kernel
theorem d_Waves_run_2 : decode b_Waves_run 2 = .ok (.sipush 500, 3) := by decide +kernel
theorem d_Waves_run_5 : decode b_Waves_run 5 = .ok (.invokestatic 56, 3) := by decide +kernel
theorem d_Waves_run_8 : decode b_Waves_run 8 = .ok (.aload_n 0, 1) := by decide +kernel
theorem d_Waves_run_9 : decode b_Waves_run 9 = .ok (.getfield 10, 3) := by decide +kernel
theorem d_Waves_run_12 : decode b_Waves_run 12 = .ok (.getfield 155, 3) := by decide +kernel
theorem d_Waves_run_15 : decode b_Waves_run 15 = .ok (.getfield 159, 3) := by decide +kernel
theorem d_Waves_run_18 : decode b_Waves_run 18 = .ok (.istore_n 2, 1) := by decide +kernel
theorem d_Waves_run_19 : decode b_Waves_run 19 = .ok (.aload_n 0, 1) := by decide +kernel
theorem d_Waves_run_20 : decode b_Waves_run 20 = .ok (.getfield 10, 3) := by decide +kernel
theorem d_Waves_run_23 : decode b_Waves_run 23 = .ok (.iload_n 1, 1) := by decide +kernel
theorem d_Waves_run_24 : decode b_Waves_run 24 = .ok (.invokevirtual 304, 3) := by decide +kernel
theorem d_Waves_run_27 : decode b_Waves_run 27 = .ok (.aload_n 0, 1) := by decide +kernel
theorem d_Waves_run_28 : decode b_Waves_run 28 = .ok (.getfield 10, 3) := by decide +kernel
theorem d_Waves_run_31 : decode b_Waves_run 31 = .ok (.getfield 155, 3) := by decide +kernel
theorem d_Waves_run_34 : decode b_Waves_run 34 = .ok (.getfield 159, 3) := by decide +kernel
theorem d_Waves_run_37 : decode b_Waves_run 37 = .ok (.iload_n 2, 1) := by decide +kernel
theorem d_Waves_run_38 : decode b_Waves_run 38 = .ok (.isub, 1) := by decide +kernel
theorem d_Waves_run_39 : decode b_Waves_run 39 = .ok (.ireturn, 1) := by decide +kernel
def F_Waves_run (a0 : Int32) (σ : zSt) : Option (Int32 × zSt) :=
  (F_Waves_checkWithin a0 (1 : Int32) (500 : Int32) σ).bind fun _ => (F_Village_pass 0 a0 σ).bind fun σ3 => some (((σ3.1 0 59 0) - (σ.1 0 59 0)), σ3)
set_option maxHeartbeats 4000000 in
set_option maxRecDepth 100000 in
theorem c_Waves_run {l : Launch} {G : zLA} (hx : zxl G) {a0 : Int32} {σ : zSt} {r : Int32} {σ' : zSt} (hf : F_Waves_run a0 σ = some (r, σ')) : zM l G y_Waves_run (zws y_Waves_run b_Waves_run 3 (some .int)) rm_Waves_run [.ref (zad G 4 70), .int a0] σ (some (.int r)) σ' := by
  refine z_ofM (own := "VillageWaves") (lv := [(0, .ref (zad G 4 70)), (1, .int a0)]) (by decide +kernel) rfl rfl (Nat.le_of_ble_eq_true rfl) (fun p e s m args below meth c C => ?_)
  rw [F_Waves_run] at hf
  refine z_iload_n C d_Waves_run_0 1 rfl rfl ?_
  refine z_iconst C d_Waves_run_1 zki_1 ?_
  refine z_sipush C d_Waves_run_2 zks_500 ?_
  obtain ⟨_, h1, hf⟩ := bd_s hf
  refine z_cSv C kl_Waves_56 (c_Waves_checkWithin h1) rfl rfl (Nat.le_of_ble_eq_true rfl) ⟨(Nat.le_of_ble_eq_true rfl), (Nat.le_of_ble_eq_true rfl)⟩ ⟨(Nat.le_of_ble_eq_true rfl), (Nat.le_of_ble_eq_true rfl)⟩ d_Waves_run_5 ?_
  refine z_aload_n C d_Waves_run_8 0 rfl rfl ?_
  refine gf_Waves_10 C (zx4 hx 70 rfl) rfl rfl d_Waves_run_9 ?_
  refine gf_Waves_155 C (zlv (zxv hx 0 rfl) 0 rfl) rfl rfl d_Waves_run_12 ?_
  refine gf_Waves_159 C (zlv (zxv hx 0 rfl) 59 rfl) rfl rfl d_Waves_run_15 ?_
  refine z_istore_n C d_Waves_run_18 rfl (by decide) ?_
  refine z_aload_n C d_Waves_run_19 1 rfl rfl ?_
  refine gf_Waves_10 C (zx4 hx 70 rfl) rfl rfl d_Waves_run_20 ?_
  refine z_iload_n C d_Waves_run_23 2 rfl rfl ?_
  obtain ⟨σ3, h2, hf⟩ := bd_s hf
  refine z_cVv C kl_Waves_304 rfl (c_Village_pass (zxv hx 0 rfl) h2) (zlv (zxv hx 0 rfl) 0 rfl) rfl rfl rfl (Nat.le_of_ble_eq_true rfl) ⟨(Nat.le_of_ble_eq_true rfl), (Nat.le_of_ble_eq_true rfl)⟩ ⟨(Nat.le_of_ble_eq_true rfl), (Nat.le_of_ble_eq_true rfl)⟩ d_Waves_run_24 ?_
  refine z_aload_n C d_Waves_run_27 1 rfl rfl ?_
  refine gf_Waves_10 C (zx4 hx 70 rfl) rfl rfl d_Waves_run_28 ?_
  refine gf_Waves_155 C (zlv (zxv hx 0 rfl) 0 rfl) rfl rfl d_Waves_run_31 ?_
  refine gf_Waves_159 C (zlv (zxv hx 0 rfl) 59 rfl) rfl rfl d_Waves_run_34 ?_
  refine z_iload_n C d_Waves_run_37 0 rfl rfl ?_
  refine z_isub C d_Waves_run_38 ?_
  cases hf
  exact z_iret C rfl (Nat.le_of_ble_eq_true rfl) (Nat.le_of_ble_eq_true rfl) d_Waves_run_39
abbrev rm_Waves_wishingInDraft : Room := { frames := 4, cells := 0, slots := 0, locals := 153 }
theorem d_Waves_wishingInDraft_0 : decode b_Waves_wishingInDraft 0 = .ok (.aload_n 0, 1) := by decide +kernel
theorem d_Waves_wishingInDraft_1 : decode b_Waves_wishingInDraft 1 = .ok (.getfield 16, 3) := by decide +kernel
theorem d_Waves_wishingInDraft_4 : decode b_Waves_wishingInDraft 4 = .ok (.aload_n 0, 1) := by decide +kernel
theorem d_Waves_wishingInDraft_5 : decode b_Waves_wishingInDraft 5 = .ok (.getfield 10, 3) := by decide +kernel
theorem d_Waves_wishingInDraft_8 : decode b_Waves_wishingInDraft 8 = .ok (.invokevirtual 64, 3) := by decide +kernel
theorem d_Waves_wishingInDraft_11 : decode b_Waves_wishingInDraft 11 = .ok (.aload_n 0, 1) := by decide +kernel
theorem d_Waves_wishingInDraft_12 : decode b_Waves_wishingInDraft 12 = .ok (.getfield 16, 3) := by decide +kernel
theorem d_Waves_wishingInDraft_15 : decode b_Waves_wishingInDraft 15 = .ok (.invokevirtual 351, 3) := by decide +kernel
theorem d_Waves_wishingInDraft_18 : decode b_Waves_wishingInDraft 18 = .ok (.aload_n 0, 1) := by decide +kernel
theorem d_Waves_wishingInDraft_19 : decode b_Waves_wishingInDraft 19 = .ok (.getfield 16, 3) := by decide +kernel
theorem d_Waves_wishingInDraft_22 : decode b_Waves_wishingInDraft 22 = .ok (.invokevirtual 354, 3) := by decide +kernel
theorem d_Waves_wishingInDraft_25 : decode b_Waves_wishingInDraft 25 = .ok (.ireturn, 1) := by decide +kernel
def F_Waves_wishingInDraft (σ : zSt) : Option (Int32 × zSt) :=
  (F_Village_copyFrom 1 0 σ).bind fun σ2 => (F_Village_beginDay 1 σ2).bind fun σ4 => (F_Village_wishing 1 σ4).bind fun r6 => some (r6, σ4)
set_option maxHeartbeats 4000000 in
set_option maxRecDepth 100000 in
theorem c_Waves_wishingInDraft {l : Launch} {G : zLA} (hx : zxl G) {σ : zSt} {r : Int32} {σ' : zSt} (hf : F_Waves_wishingInDraft σ = some (r, σ')) : zM l G y_Waves_wishingInDraft (zws y_Waves_wishingInDraft b_Waves_wishingInDraft 1 (some .int)) rm_Waves_wishingInDraft [.ref (zad G 4 70)] σ (some (.int r)) σ' := by
  refine z_ofM (own := "VillageWaves") (lv := [(0, .ref (zad G 4 70))]) (by decide +kernel) rfl rfl (Nat.le_of_ble_eq_true rfl) (fun p e s m args below meth c C => ?_)
  rw [F_Waves_wishingInDraft] at hf
  refine z_aload_n C d_Waves_wishingInDraft_0 0 rfl rfl ?_
  refine gf_Waves_16 C (zx4 hx 70 rfl) rfl rfl d_Waves_wishingInDraft_1 ?_
  refine z_aload_n C d_Waves_wishingInDraft_4 0 rfl rfl ?_
  refine gf_Waves_10 C (zx4 hx 70 rfl) rfl rfl d_Waves_wishingInDraft_5 ?_
  obtain ⟨σ2, h1, hf⟩ := bd_s hf
  refine z_cVv C kl_Waves_64 rfl (c_Village_copyFrom (zxv hx 1 rfl) (zxv hx 0 rfl) h1) (zlv (zxv hx 1 rfl) 0 rfl) rfl rfl rfl (Nat.le_of_ble_eq_true rfl) ⟨(Nat.le_of_ble_eq_true rfl), (Nat.le_of_ble_eq_true rfl)⟩ ⟨(Nat.le_of_ble_eq_true rfl), (Nat.le_of_ble_eq_true rfl)⟩ d_Waves_wishingInDraft_8 ?_
  refine z_aload_n C d_Waves_wishingInDraft_11 0 rfl rfl ?_
  refine gf_Waves_16 C (zx4 hx 70 rfl) rfl rfl d_Waves_wishingInDraft_12 ?_
  obtain ⟨σ4, h3, hf⟩ := bd_s hf
  refine z_cVv C kl_Waves_351 rfl (c_Village_beginDay (zxv hx 1 rfl) h3) (zlv (zxv hx 1 rfl) 0 rfl) rfl rfl rfl (Nat.le_of_ble_eq_true rfl) ⟨(Nat.le_of_ble_eq_true rfl), (Nat.le_of_ble_eq_true rfl)⟩ ⟨(Nat.le_of_ble_eq_true rfl), (Nat.le_of_ble_eq_true rfl)⟩ d_Waves_wishingInDraft_15 ?_
  refine z_aload_n C d_Waves_wishingInDraft_18 0 rfl rfl ?_
  refine gf_Waves_16 C (zx4 hx 70 rfl) rfl rfl d_Waves_wishingInDraft_19 ?_
  obtain ⟨r6, h5, hf⟩ := bd_s hf
  refine z_cVi C kl_Waves_354 rfl (c_Village_wishing (zxv hx 1 rfl) h5) (zlv (zxv hx 1 rfl) 0 rfl) rfl rfl rfl (Nat.le_of_ble_eq_true rfl) ⟨(Nat.le_of_ble_eq_true rfl), (Nat.le_of_ble_eq_true rfl)⟩ ⟨(Nat.le_of_ble_eq_true rfl), (Nat.le_of_ble_eq_true rfl)⟩ d_Waves_wishingInDraft_22 ?_
  cases hf
  exact z_iret C rfl (Nat.le_of_ble_eq_true rfl) (Nat.le_of_ble_eq_true rfl) d_Waves_wishingInDraft_25
abbrev rm_Waves_wishes : Room := { frames := 5, cells := 0, slots := 0, locals := 173 }
theorem d_Waves_wishes_0 : decode b_Waves_wishes 0 = .ok (.aload_n 0, 1) := by decide +kernel
theorem d_Waves_wishes_1 : decode b_Waves_wishes 1 = .ok (.invokevirtual 307, 3) := by decide +kernel
theorem d_Waves_wishes_4 : decode b_Waves_wishes 4 = .ok (.ireturn, 1) := by decide +kernel
def F_Waves_wishes (σ : zSt) : Option (Int32 × zSt) :=
  bd2 (F_Waves_wishingInDraft σ) fun r2 σ3 => some (r2, σ3)
set_option maxHeartbeats 4000000 in
set_option maxRecDepth 100000 in
theorem c_Waves_wishes {l : Launch} {G : zLA} (hx : zxl G) {σ : zSt} {r : Int32} {σ' : zSt} (hf : F_Waves_wishes σ = some (r, σ')) : zM l G y_Waves_wishes (zws y_Waves_wishes b_Waves_wishes 1 (some .int)) rm_Waves_wishes [.ref (zad G 4 70)] σ (some (.int r)) σ' := by
  refine z_ofM (own := "VillageWaves") (lv := [(0, .ref (zad G 4 70))]) (by decide +kernel) rfl rfl (Nat.le_of_ble_eq_true rfl) (fun p e s m args below meth c C => ?_)
  rw [F_Waves_wishes] at hf
  refine z_aload_n C d_Waves_wishes_0 0 rfl rfl ?_
  obtain ⟨r2, σ3, h1, hf⟩ := bd2_s hf
  refine z_cVi C kl_Waves_307 rfl (c_Waves_wishingInDraft hx h1) (zx4 hx 70 rfl) rfl rfl rfl (Nat.le_of_ble_eq_true rfl) ⟨(Nat.le_of_ble_eq_true rfl), (Nat.le_of_ble_eq_true rfl)⟩ ⟨(Nat.le_of_ble_eq_true rfl), (Nat.le_of_ble_eq_true rfl)⟩ d_Waves_wishes_1 ?_
  cases hf
  exact z_iret C rfl (Nat.le_of_ble_eq_true rfl) (Nat.le_of_ble_eq_true rfl) d_Waves_wishes_4
abbrev rm_Waves_next : Room := { frames := 5, cells := 0, slots := 0, locals := 173 }
theorem d_Waves_next_0 : decode b_Waves_next 0 = .ok (.aload_n 0, 1) := by decide +kernel
theorem d_Waves_next_1 : decode b_Waves_next 1 = .ok (.invokevirtual 307, 3) := by decide +kernel
theorem d_Waves_next_4 : decode b_Waves_next 4 = .ok (.istore_n 1, 1) := by decide +kernel
theorem d_Waves_next_5 : decode b_Waves_next 5 = .ok (.iload_n 1, 1) := by decide +kernel
theorem d_Waves_next_6 : decode b_Waves_next 6 = .ok (.ifCond .ne 7, 3) := by decide +kernel
theorem d_Waves_next_9 : decode b_Waves_next 9 = .ok (.iconst (-1), 1) := by decide +kernel
theorem d_Waves_next_10 : decode b_Waves_next 10 = .ok (.goto 11, 3) := by decide +kernel
theorem d_Waves_next_13 : decode b_Waves_next 13 = .ok (.aload_n 0, 1) := by decide +kernel
theorem d_Waves_next_14 : decode b_Waves_next 14 = .ok (.getfield 16, 3) := by decide +kernel
theorem d_Waves_next_17 : decode b_Waves_next 17 = .ok (.iload_n 1, 1) := by decide +kernel
theorem d_Waves_next_18 : decode b_Waves_next 18 = .ok (.invokevirtual 310, 3) := by decide +kernel
theorem d_Waves_next_21 : decode b_Waves_next 21 = .ok (.ireturn, 1) := by decide +kernel
def F_Waves_next (σ : zSt) : Option (Int32 × zSt) :=
  bd2 (F_Waves_wishingInDraft σ) fun r2 σ3 => if r2 = 0 then some ((-1 : Int32), σ3) else (bd2 (F_Village_drawnOf 1 r2 σ3) fun r5 σ6 => some (r5, σ6))
set_option maxHeartbeats 4000000 in
set_option maxRecDepth 100000 in
theorem c_Waves_next {l : Launch} {G : zLA} (hx : zxl G) {σ : zSt} {r : Int32} {σ' : zSt} (hf : F_Waves_next σ = some (r, σ')) : zM l G y_Waves_next (zws y_Waves_next b_Waves_next 2 (some .int)) rm_Waves_next [.ref (zad G 4 70)] σ (some (.int r)) σ' := by
  refine z_ofM (own := "VillageWaves") (lv := [(0, .ref (zad G 4 70))]) (by decide +kernel) rfl rfl (Nat.le_of_ble_eq_true rfl) (fun p e s m args below meth c C => ?_)
  rw [F_Waves_next] at hf
  refine z_aload_n C d_Waves_next_0 0 rfl rfl ?_
  obtain ⟨r2, σ3, h1, hf⟩ := bd2_s hf
  refine z_cVi C kl_Waves_307 rfl (c_Waves_wishingInDraft hx h1) (zx4 hx 70 rfl) rfl rfl rfl (Nat.le_of_ble_eq_true rfl) ⟨(Nat.le_of_ble_eq_true rfl), (Nat.le_of_ble_eq_true rfl)⟩ ⟨(Nat.le_of_ble_eq_true rfl), (Nat.le_of_ble_eq_true rfl)⟩ d_Waves_next_1 ?_
  refine z_istore_n C d_Waves_next_4 rfl (by decide) ?_
  refine z_iload_n C d_Waves_next_5 0 rfl rfl ?_
  refine z_if_ne (tgt := 13) C d_Waves_next_6 rfl (fun h7 => ?_) (fun h7 => ?_)
  · have hf := iff_f hf h7
    refine z_aload_n C d_Waves_next_13 1 rfl rfl ?_
    refine gf_Waves_16 C (zx4 hx 70 rfl) rfl rfl d_Waves_next_14 ?_
    refine z_iload_n C d_Waves_next_17 0 rfl rfl ?_
    obtain ⟨r5, σ6, h4, hf⟩ := bd2_s hf
    refine z_cVi C kl_Waves_310 rfl (c_Village_drawnOf (zxv hx 1 rfl) h4) (zlv (zxv hx 1 rfl) 0 rfl) rfl rfl rfl (Nat.le_of_ble_eq_true rfl) ⟨(Nat.le_of_ble_eq_true rfl), (Nat.le_of_ble_eq_true rfl)⟩ ⟨(Nat.le_of_ble_eq_true rfl), (Nat.le_of_ble_eq_true rfl)⟩ d_Waves_next_18 ?_
    cases hf
    exact z_iret C rfl (Nat.le_of_ble_eq_true rfl) (Nat.le_of_ble_eq_true rfl) d_Waves_next_21
  · have hf := iff_t hf h7
    refine z_iconst C d_Waves_next_9 zki_m1 ?_
    refine z_goto (tgt := 21) C d_Waves_next_10 rfl ?_
    cases hf
    exact z_iret C rfl (Nat.le_of_ble_eq_true rfl) (Nat.le_of_ble_eq_true rfl) d_Waves_next_21
abbrev rm_Waves_chance : Room := { frames := 7, cells := 0, slots := 0, locals := 173 }
theorem d_Waves_chance_0 : decode b_Waves_chance 0 = .ok (.aload_n 0, 1) := by decide +kernel
theorem d_Waves_chance_1 : decode b_Waves_chance 1 = .ok (.iload_n 1, 1) := by decide +kernel
theorem d_Waves_chance_2 : decode b_Waves_chance 2 = .ok (.invokevirtual 93, 3) := by decide +kernel
theorem d_Waves_chance_5 : decode b_Waves_chance 5 = .ok (.aload_n 0, 1) := by decide +kernel
theorem d_Waves_chance_6 : decode b_Waves_chance 6 = .ok (.invokevirtual 307, 3) := by decide +kernel
theorem d_Waves_chance_9 : decode b_Waves_chance 9 = .ok (.istore_n 2, 1) := by decide +kernel
theorem d_Waves_chance_10 : decode b_Waves_chance 10 = .ok (.aload_n 0, 1) := by decide +kernel
theorem d_Waves_chance_11 : decode b_Waves_chance 11 = .ok (.getfield 10, 3) := by decide +kernel
theorem d_Waves_chance_14 : decode b_Waves_chance 14 = .ok (.getfield 68, 3) := by decide +kernel
theorem d_Waves_chance_17 : decode b_Waves_chance 17 = .ok (.iload_n 2, 1) := by decide +kernel
theorem d_Waves_chance_18 : decode b_Waves_chance 18 = .ok (.invokevirtual 313, 3) := by decide +kernel
theorem d_Waves_chance_21 : decode b_Waves_chance 21 = .ok (.istore_n 3, 1) := by decide +kernel
theorem d_Waves_chance_22 : decode b_Waves_chance 22 = .ok (.iload_n 2, 1) := by decide +kernel
theorem d_Waves_chance_23 : decode b_Waves_chance 23 = .ok (.iload_n 1, 1) := by decide +kernel
theorem d_Waves_chance_24 : decode b_Waves_chance 24 = .ok (.invokestatic 289, 3) := by decide +kernel
theorem d_Waves_chance_27 : decode b_Waves_chance 27 = .ok (.ifCond .eq 7, 3) := by decide +kernel
theorem d_Waves_chance_30 : decode b_Waves_chance 30 = .ok (.iload_n 3, 1) := by decide +kernel
theorem d_Waves_chance_31 : decode b_Waves_chance 31 = .ok (.ifCond .gt 5, 3) := by decide +kernel
theorem d_Waves_chance_34 : decode b_Waves_chance 34 = .ok (.dconst 0, 1) := by decide +kernel
theorem d_Waves_chance_35 : decode b_Waves_chance 35 = .ok (.dreturn, 1) := by decide +kernel
theorem d_Waves_chance_36 : decode b_Waves_chance 36 = .ok (.aload_n 0, 1) := by decide +kernel
theorem d_Waves_chance_37 : decode b_Waves_chance 37 = .ok (.getfield 10, 3) := by decide +kernel
theorem d_Waves_chance_40 : decode b_Waves_chance 40 = .ok (.getfield 68, 3) := by decide +kernel
theorem d_Waves_chance_43 : decode b_Waves_chance 43 = .ok (.getfield 194, 3) := by decide +kernel
theorem d_Waves_chance_46 : decode b_Waves_chance 46 = .ok (.iload_n 1, 1) := by decide +kernel
theorem d_Waves_chance_47 : decode b_Waves_chance 47 = .ok (.invokevirtual 123, 3) := by decide +kernel
theorem d_Waves_chance_50 : decode b_Waves_chance 50 = .ok (.i2d, 1) := by decide +kernel
theorem d_Waves_chance_51 : decode b_Waves_chance 51 = .ok (.iload_n 3, 1) := by decide +kernel
theorem d_Waves_chance_52 : decode b_Waves_chance 52 = .ok (.i2d, 1) := by decide +kernel
theorem d_Waves_chance_53 : decode b_Waves_chance 53 = .ok (.ddiv, 1) := by decide +kernel
theorem d_Waves_chance_54 : decode b_Waves_chance 54 = .ok (.dreturn, 1) := by decide +kernel
def F_Waves_chance (a0 : Int32) (σ : zSt) : Option (UInt64 × zSt) :=
  (F_Waves_checkHouse a0 σ).bind fun _ => bd2 (F_Waves_wishingInDraft σ) fun r3 σ4 => (F_Homes_sharesOf 0 r3 σ4).bind fun r6 => (F_Waves_contains r3 a0 σ4).bind fun r8 => if r8 = 0 then some (FP.dconst0, σ4) else (if 0 < r6 then ((F_Row_get 0 12 a0 σ4).bind fun r10 => if zn64 (FP.ddiv (FP.i2d r10) (FP.i2d r6)) = true then some ((FP.ddiv (FP.i2d r10) (FP.i2d r6)), σ4) else none) else some (FP.dconst0, σ4))
set_option maxHeartbeats 4000000 in
set_option maxRecDepth 100000 in
theorem c_Waves_chance {l : Launch} {G : zLA} (hx : zxl G) {a0 : Int32} {σ : zSt} {r : UInt64} {σ' : zSt} (hf : F_Waves_chance a0 σ = some (r, σ')) : zM l G y_Waves_chance (zws y_Waves_chance b_Waves_chance 4 (some .double)) rm_Waves_chance [.ref (zad G 4 70), .int a0] σ (some (.double r)) σ' := by
  refine z_ofM (own := "VillageWaves") (lv := [(0, .ref (zad G 4 70)), (1, .int a0)]) (by decide +kernel) rfl rfl (Nat.le_of_ble_eq_true rfl) (fun p e s m args below meth c C => ?_)
  rw [F_Waves_chance] at hf
  refine z_aload_n C d_Waves_chance_0 0 rfl rfl ?_
  refine z_iload_n C d_Waves_chance_1 1 rfl rfl ?_
  obtain ⟨_, h1, hf⟩ := bd_s hf
  refine z_cVv C kl_Waves_93 rfl (c_Waves_checkHouse hx h1) (zx4 hx 70 rfl) rfl rfl rfl (Nat.le_of_ble_eq_true rfl) ⟨(Nat.le_of_ble_eq_true rfl), (Nat.le_of_ble_eq_true rfl)⟩ ⟨(Nat.le_of_ble_eq_true rfl), (Nat.le_of_ble_eq_true rfl)⟩ d_Waves_chance_2 ?_
  refine z_aload_n C d_Waves_chance_5 0 rfl rfl ?_
  obtain ⟨r3, σ4, h2, hf⟩ := bd2_s hf
  refine z_cVi C kl_Waves_307 rfl (c_Waves_wishingInDraft hx h2) (zx4 hx 70 rfl) rfl rfl rfl (Nat.le_of_ble_eq_true rfl) ⟨(Nat.le_of_ble_eq_true rfl), (Nat.le_of_ble_eq_true rfl)⟩ ⟨(Nat.le_of_ble_eq_true rfl), (Nat.le_of_ble_eq_true rfl)⟩ d_Waves_chance_6 ?_
  refine z_istore_n C d_Waves_chance_9 rfl (by decide) ?_
  refine z_aload_n C d_Waves_chance_10 1 rfl rfl ?_
  refine gf_Waves_10 C (zx4 hx 70 rfl) rfl rfl d_Waves_chance_11 ?_
  refine gf_Waves_68 C (zlv (zxv hx 0 rfl) 0 rfl) rfl rfl d_Waves_chance_14 ?_
  refine z_iload_n C d_Waves_chance_17 0 rfl rfl ?_
  obtain ⟨r6, h5, hf⟩ := bd_s hf
  refine z_cVi C kl_Waves_313 rfl (c_Homes_sharesOf (zxv hx 0 rfl) h5) (zlv (zxv hx 0 rfl) 3 rfl) rfl rfl rfl (Nat.le_of_ble_eq_true rfl) ⟨(Nat.le_of_ble_eq_true rfl), (Nat.le_of_ble_eq_true rfl)⟩ ⟨(Nat.le_of_ble_eq_true rfl), (Nat.le_of_ble_eq_true rfl)⟩ d_Waves_chance_18 ?_
  refine z_istore_n C d_Waves_chance_21 rfl (by decide) ?_
  refine z_iload_n C d_Waves_chance_22 1 rfl rfl ?_
  refine z_iload_n C d_Waves_chance_23 3 rfl rfl ?_
  obtain ⟨r8, h7, hf⟩ := bd_s hf
  refine z_cSi C kl_Waves_289 (c_Waves_contains h7) rfl rfl (Nat.le_of_ble_eq_true rfl) ⟨(Nat.le_of_ble_eq_true rfl), (Nat.le_of_ble_eq_true rfl)⟩ ⟨(Nat.le_of_ble_eq_true rfl), (Nat.le_of_ble_eq_true rfl)⟩ d_Waves_chance_24 ?_
  refine z_if_eq (tgt := 34) C d_Waves_chance_27 rfl (fun h13 => ?_) (fun h13 => ?_)
  · have hf := iff_t hf h13
    refine z_dconst0 C d_Waves_chance_34 ?_
    cases hf
    exact z_dret C rfl (Nat.le_of_ble_eq_true rfl) (Nat.le_of_ble_eq_true rfl) d_Waves_chance_35
  · have hf := iff_f hf h13
    refine z_iload_n C d_Waves_chance_30 0 rfl rfl ?_
    refine z_if_gt (tgt := 36) C d_Waves_chance_31 rfl (fun h12 => ?_) (fun h12 => ?_)
    · have hf := iff_t hf h12
      refine z_aload_n C d_Waves_chance_36 2 rfl rfl ?_
      refine gf_Waves_10 C (zx4 hx 70 rfl) rfl rfl d_Waves_chance_37 ?_
      refine gf_Waves_68 C (zlv (zxv hx 0 rfl) 0 rfl) rfl rfl d_Waves_chance_40 ?_
      refine gf_Waves_194 C (zlv (zxv hx 0 rfl) 3 rfl) rfl rfl d_Waves_chance_43 ?_
      refine z_iload_n C d_Waves_chance_46 3 rfl rfl ?_
      obtain ⟨r10, h9, hf⟩ := bd_s hf
      refine z_cVi C kl_Waves_123 rfl (c_Row_get (zrow_v (zxv hx 0 rfl) 12 rfl) h9) (zlv (zxv hx 0 rfl) 12 rfl) rfl rfl rfl (Nat.le_of_ble_eq_true rfl) ⟨(Nat.le_of_ble_eq_true rfl), (Nat.le_of_ble_eq_true rfl)⟩ ⟨(Nat.le_of_ble_eq_true rfl), (Nat.le_of_ble_eq_true rfl)⟩ d_Waves_chance_47 ?_
      refine z_i2d C d_Waves_chance_50 ?_
      refine z_iload_n C d_Waves_chance_51 0 rfl rfl ?_
      refine z_i2d C d_Waves_chance_52 ?_
      obtain ⟨h11, hf⟩ := iff_g hf
      refine z_ddiv C d_Waves_chance_53 (zn64_n h11) ?_
      cases hf
      exact z_dret C rfl (Nat.le_of_ble_eq_true rfl) (Nat.le_of_ble_eq_true rfl) d_Waves_chance_54
    · have hf := iff_f hf h12
      refine z_dconst0 C d_Waves_chance_34 ?_
      cases hf
      exact z_dret C rfl (Nat.le_of_ble_eq_true rfl) (Nat.le_of_ble_eq_true rfl) d_Waves_chance_35
abbrev rm_Waves_reached : Room := { frames := 7, cells := 0, slots := 0, locals := 153 }
theorem d_Waves_reached_0 : decode b_Waves_reached 0 = .ok (.aload_n 0, 1) := by decide +kernel
theorem d_Waves_reached_1 : decode b_Waves_reached 1 = .ok (.iload_n 1, 1) := by decide +kernel
theorem d_Waves_reached_2 : decode b_Waves_reached 2 = .ok (.invokevirtual 238, 3) := by decide +kernel
theorem d_Waves_reached_5 : decode b_Waves_reached 5 = .ok (.iload_n 2, 1) := by decide +kernel
theorem d_Waves_reached_6 : decode b_Waves_reached 6 = .ok (.iconst 1, 1) := by decide +kernel
theorem d_Waves_reached_7 : decode b_Waves_reached 7 = .ok (.sipush 500, 3) := by decide +kernel
theorem d_Waves_reached_10 : decode b_Waves_reached 10 = .ok (.invokestatic 56, 3) := by decide +kernel
theorem d_Waves_reached_13 : decode b_Waves_reached 13 = .ok (.iload_n 3, 1) := by decide +kernel
theorem d_Waves_reached_14 : decode b_Waves_reached 14 = .ok (.iconst 0, 1) := by decide +kernel
theorem d_Waves_reached_15 : decode b_Waves_reached 15 = .ok (.iconst 2, 1) := by decide +kernel
theorem d_Waves_reached_16 : decode b_Waves_reached 16 = .ok (.invokestatic 56, 3) := by decide +kernel
theorem d_Waves_reached_19 : decode b_Waves_reached 19 = .ok (.aload_n 0, 1) := by decide +kernel
theorem d_Waves_reached_20 : decode b_Waves_reached 20 = .ok (.getfield 16, 3) := by decide +kernel
theorem d_Waves_reached_23 : decode b_Waves_reached 23 = .ok (.aload_n 0, 1) := by decide +kernel
theorem d_Waves_reached_24 : decode b_Waves_reached 24 = .ok (.getfield 10, 3) := by decide +kernel
theorem d_Waves_reached_27 : decode b_Waves_reached 27 = .ok (.invokevirtual 64, 3) := by decide +kernel
theorem d_Waves_reached_30 : decode b_Waves_reached 30 = .ok (.aload_n 0, 1) := by decide +kernel
theorem d_Waves_reached_31 : decode b_Waves_reached 31 = .ok (.getfield 16, 3) := by decide +kernel
theorem d_Waves_reached_34 : decode b_Waves_reached 34 = .ok (.iload_n 2, 1) := by decide +kernel
theorem d_Waves_reached_35 : decode b_Waves_reached 35 = .ok (.invokevirtual 304, 3) := by decide +kernel
theorem d_Waves_reached_38 : decode b_Waves_reached 38 = .ok (.iload_n 3, 1) := by decide +kernel
theorem d_Waves_reached_39 : decode b_Waves_reached 39 = .ok (.lookupswitch 61 #[(0, 25), (1, 43)], 25) := by decide +kernel
theorem d_Waves_reached_64 : decode b_Waves_reached 64 = .ok (.aload_n 0, 1) := by decide +kernel
theorem d_Waves_reached_65 : decode b_Waves_reached 65 = .ok (.getfield 16, 3) := by decide +kernel
theorem d_Waves_reached_68 : decode b_Waves_reached 68 = .ok (.getfield 145, 3) := by decide +kernel
theorem d_Waves_reached_71 : decode b_Waves_reached 71 = .ok (.getfield 259, 3) := by decide +kernel
theorem d_Waves_reached_74 : decode b_Waves_reached 74 = .ok (.iload_n 1, 1) := by decide +kernel
theorem d_Waves_reached_75 : decode b_Waves_reached 75 = .ok (.invokevirtual 123, 3) := by decide +kernel
theorem d_Waves_reached_78 : decode b_Waves_reached 78 = .ok (.invokestatic 299, 3) := by decide +kernel
theorem d_Waves_reached_81 : decode b_Waves_reached 81 = .ok (.ireturn, 1) := by decide +kernel
theorem d_Waves_reached_82 : decode b_Waves_reached 82 = .ok (.aload_n 0, 1) := by decide +kernel
theorem d_Waves_reached_83 : decode b_Waves_reached 83 = .ok (.getfield 16, 3) := by decide +kernel
theorem d_Waves_reached_86 : decode b_Waves_reached 86 = .ok (.getfield 145, 3) := by decide +kernel
theorem d_Waves_reached_89 : decode b_Waves_reached 89 = .ok (.getfield 262, 3) := by decide +kernel
theorem d_Waves_reached_92 : decode b_Waves_reached 92 = .ok (.iload_n 1, 1) := by decide +kernel
theorem d_Waves_reached_93 : decode b_Waves_reached 93 = .ok (.invokevirtual 123, 3) := by decide +kernel
theorem d_Waves_reached_96 : decode b_Waves_reached 96 = .ok (.invokestatic 299, 3) := by decide +kernel
theorem d_Waves_reached_99 : decode b_Waves_reached 99 = .ok (.ireturn, 1) := by decide +kernel
theorem d_Waves_reached_100 : decode b_Waves_reached 100 = .ok (.aload_n 0, 1) := by decide +kernel
theorem d_Waves_reached_101 : decode b_Waves_reached 101 = .ok (.getfield 16, 3) := by decide +kernel
theorem d_Waves_reached_104 : decode b_Waves_reached 104 = .ok (.getfield 145, 3) := by decide +kernel
theorem d_Waves_reached_107 : decode b_Waves_reached 107 = .ok (.iload_n 1, 1) := by decide +kernel
theorem d_Waves_reached_108 : decode b_Waves_reached 108 = .ok (.invokevirtual 265, 3) := by decide +kernel
theorem d_Waves_reached_111 : decode b_Waves_reached 111 = .ok (.invokestatic 299, 3) := by decide +kernel
theorem d_Waves_reached_114 : decode b_Waves_reached 114 = .ok (.ireturn, 1) := by decide +kernel
def F_Waves_reached (a0 : Int32) (a1 : Int32) (a2 : Int32) (σ : zSt) : Option (Int32 × zSt) :=
  (F_Waves_checkNews a0 σ).bind fun _ => (F_Waves_checkWithin a1 (1 : Int32) (500 : Int32) σ).bind fun _ => (F_Waves_checkWithin a2 (0 : Int32) (2 : Int32) σ).bind fun _ => (F_Village_copyFrom 1 0 σ).bind fun σ5 => (F_Village_pass 1 a1 σ5).bind fun σ7 => if a2 = (0 : Int32) then ((F_Row_get 1 37 a0 σ7).bind fun r10 => (F_Integer_bitCount r10).bind fun r12 => some (r12, σ7)) else (if a2 = (1 : Int32) then ((F_Row_get 1 39 a0 σ7).bind fun r15 => (F_Integer_bitCount r15).bind fun r17 => some (r17, σ7)) else ((F_Tidings_uncorrectedHouses 1 a0 σ7).bind fun r19 => (F_Integer_bitCount r19).bind fun r21 => some (r21, σ7)))
set_option maxHeartbeats 4000000 in
set_option maxRecDepth 100000 in
theorem c_Waves_reached {l : Launch} {G : zLA} (hx : zxl G) {a0 : Int32} {a1 : Int32} {a2 : Int32} {σ : zSt} {r : Int32} {σ' : zSt} (hf : F_Waves_reached a0 a1 a2 σ = some (r, σ')) : zM l G y_Waves_reached (zws y_Waves_reached b_Waves_reached 4 (some .int)) rm_Waves_reached [.ref (zad G 4 70), .int a0, .int a1, .int a2] σ (some (.int r)) σ' := by
  refine z_ofM (own := "VillageWaves") (lv := [(0, .ref (zad G 4 70)), (1, .int a0), (2, .int a1), (3, .int a2)]) (by decide +kernel) rfl rfl (Nat.le_of_ble_eq_true rfl) (fun p e s m args below meth c C => ?_)
  rw [F_Waves_reached] at hf
  refine z_aload_n C d_Waves_reached_0 0 rfl rfl ?_
  refine z_iload_n C d_Waves_reached_1 1 rfl rfl ?_
  obtain ⟨_, h1, hf⟩ := bd_s hf
  refine z_cVv C kl_Waves_238 rfl (c_Waves_checkNews hx h1) (zx4 hx 70 rfl) rfl rfl rfl (Nat.le_of_ble_eq_true rfl) ⟨(Nat.le_of_ble_eq_true rfl), (Nat.le_of_ble_eq_true rfl)⟩ ⟨(Nat.le_of_ble_eq_true rfl), (Nat.le_of_ble_eq_true rfl)⟩ d_Waves_reached_2 ?_
  refine z_iload_n C d_Waves_reached_5 2 rfl rfl ?_
  refine z_iconst C d_Waves_reached_6 zki_1 ?_
  refine z_sipush C d_Waves_reached_7 zks_500 ?_
  obtain ⟨_, h2, hf⟩ := bd_s hf
  refine z_cSv C kl_Waves_56 (c_Waves_checkWithin h2) rfl rfl (Nat.le_of_ble_eq_true rfl) ⟨(Nat.le_of_ble_eq_true rfl), (Nat.le_of_ble_eq_true rfl)⟩ ⟨(Nat.le_of_ble_eq_true rfl), (Nat.le_of_ble_eq_true rfl)⟩ d_Waves_reached_10 ?_
  refine z_iload_n C d_Waves_reached_13 3 rfl rfl ?_
  refine z_iconst C d_Waves_reached_14 zki_0 ?_
  refine z_iconst C d_Waves_reached_15 zki_2 ?_
  obtain ⟨_, h3, hf⟩ := bd_s hf
  refine z_cSv C kl_Waves_56 (c_Waves_checkWithin h3) rfl rfl (Nat.le_of_ble_eq_true rfl) ⟨(Nat.le_of_ble_eq_true rfl), (Nat.le_of_ble_eq_true rfl)⟩ ⟨(Nat.le_of_ble_eq_true rfl), (Nat.le_of_ble_eq_true rfl)⟩ d_Waves_reached_16 ?_
  refine z_aload_n C d_Waves_reached_19 0 rfl rfl ?_
  refine gf_Waves_16 C (zx4 hx 70 rfl) rfl rfl d_Waves_reached_20 ?_
  refine z_aload_n C d_Waves_reached_23 0 rfl rfl ?_
  refine gf_Waves_10 C (zx4 hx 70 rfl) rfl rfl d_Waves_reached_24 ?_
  obtain ⟨σ5, h4, hf⟩ := bd_s hf
  refine z_cVv C kl_Waves_64 rfl (c_Village_copyFrom (zxv hx 1 rfl) (zxv hx 0 rfl) h4) (zlv (zxv hx 1 rfl) 0 rfl) rfl rfl rfl (Nat.le_of_ble_eq_true rfl) ⟨(Nat.le_of_ble_eq_true rfl), (Nat.le_of_ble_eq_true rfl)⟩ ⟨(Nat.le_of_ble_eq_true rfl), (Nat.le_of_ble_eq_true rfl)⟩ d_Waves_reached_27 ?_
  refine z_aload_n C d_Waves_reached_30 0 rfl rfl ?_
  refine gf_Waves_16 C (zx4 hx 70 rfl) rfl rfl d_Waves_reached_31 ?_
  refine z_iload_n C d_Waves_reached_34 2 rfl rfl ?_
  obtain ⟨σ7, h6, hf⟩ := bd_s hf
  refine z_cVv C kl_Waves_304 rfl (c_Village_pass (zxv hx 1 rfl) h6) (zlv (zxv hx 1 rfl) 0 rfl) rfl rfl rfl (Nat.le_of_ble_eq_true rfl) ⟨(Nat.le_of_ble_eq_true rfl), (Nat.le_of_ble_eq_true rfl)⟩ ⟨(Nat.le_of_ble_eq_true rfl), (Nat.le_of_ble_eq_true rfl)⟩ d_Waves_reached_35 ?_
  refine z_iload_n C d_Waves_reached_38 3 rfl rfl ?_
  by_cases h8 : a2 = (0 : Int32)
  · have hf := iff_t hf h8
    refine z_look (off := 25) (tgt := 64) C d_Waves_reached_39 (by decide) (by rw [h8]; decide) rfl ?_
    refine z_aload_n C d_Waves_reached_64 0 rfl rfl ?_
    refine gf_Waves_16 C (zx4 hx 70 rfl) rfl rfl d_Waves_reached_65 ?_
    refine gf_Waves_145 C (zlv (zxv hx 1 rfl) 0 rfl) rfl rfl d_Waves_reached_68 ?_
    refine gf_Waves_259 C (zlv (zxv hx 1 rfl) 24 rfl) rfl rfl d_Waves_reached_71 ?_
    refine z_iload_n C d_Waves_reached_74 1 rfl rfl ?_
    obtain ⟨r10, h9, hf⟩ := bd_s hf
    refine z_cVi C kl_Waves_123 rfl (c_Row_get (zrow_v (zxv hx 1 rfl) 37 rfl) h9) (zlv (zxv hx 1 rfl) 37 rfl) rfl rfl rfl (Nat.le_of_ble_eq_true rfl) ⟨(Nat.le_of_ble_eq_true rfl), (Nat.le_of_ble_eq_true rfl)⟩ ⟨(Nat.le_of_ble_eq_true rfl), (Nat.le_of_ble_eq_true rfl)⟩ d_Waves_reached_75 ?_
    obtain ⟨r12, h11, hf⟩ := bd_s hf
    refine z_cSi C kl_Waves_299 (c_Integer_bitCount h11) rfl rfl (Nat.le_of_ble_eq_true rfl) ⟨(Nat.le_of_ble_eq_true rfl), (Nat.le_of_ble_eq_true rfl)⟩ ⟨(Nat.le_of_ble_eq_true rfl), (Nat.le_of_ble_eq_true rfl)⟩ d_Waves_reached_78 ?_
    cases hf
    exact z_iret C rfl (Nat.le_of_ble_eq_true rfl) (Nat.le_of_ble_eq_true rfl) d_Waves_reached_81
  · have hf := iff_f hf h8
    by_cases h13 : a2 = (1 : Int32)
    · have hf := iff_t hf h13
      refine z_look (off := 43) (tgt := 82) C d_Waves_reached_39 (by decide) (by rw [h13]; decide) rfl ?_
      refine z_aload_n C d_Waves_reached_82 0 rfl rfl ?_
      refine gf_Waves_16 C (zx4 hx 70 rfl) rfl rfl d_Waves_reached_83 ?_
      refine gf_Waves_145 C (zlv (zxv hx 1 rfl) 0 rfl) rfl rfl d_Waves_reached_86 ?_
      refine gf_Waves_262 C (zlv (zxv hx 1 rfl) 24 rfl) rfl rfl d_Waves_reached_89 ?_
      refine z_iload_n C d_Waves_reached_92 1 rfl rfl ?_
      obtain ⟨r15, h14, hf⟩ := bd_s hf
      refine z_cVi C kl_Waves_123 rfl (c_Row_get (zrow_v (zxv hx 1 rfl) 39 rfl) h14) (zlv (zxv hx 1 rfl) 39 rfl) rfl rfl rfl (Nat.le_of_ble_eq_true rfl) ⟨(Nat.le_of_ble_eq_true rfl), (Nat.le_of_ble_eq_true rfl)⟩ ⟨(Nat.le_of_ble_eq_true rfl), (Nat.le_of_ble_eq_true rfl)⟩ d_Waves_reached_93 ?_
      obtain ⟨r17, h16, hf⟩ := bd_s hf
      refine z_cSi C kl_Waves_299 (c_Integer_bitCount h16) rfl rfl (Nat.le_of_ble_eq_true rfl) ⟨(Nat.le_of_ble_eq_true rfl), (Nat.le_of_ble_eq_true rfl)⟩ ⟨(Nat.le_of_ble_eq_true rfl), (Nat.le_of_ble_eq_true rfl)⟩ d_Waves_reached_96 ?_
      cases hf
      exact z_iret C rfl (Nat.le_of_ble_eq_true rfl) (Nat.le_of_ble_eq_true rfl) d_Waves_reached_99
    · have hf := iff_f hf h13
      refine z_look (off := 61) (tgt := 100) C d_Waves_reached_39 (by decide) (zlook_out h8 h13) rfl ?_
      refine z_aload_n C d_Waves_reached_100 0 rfl rfl ?_
      refine gf_Waves_16 C (zx4 hx 70 rfl) rfl rfl d_Waves_reached_101 ?_
      refine gf_Waves_145 C (zlv (zxv hx 1 rfl) 0 rfl) rfl rfl d_Waves_reached_104 ?_
      refine z_iload_n C d_Waves_reached_107 1 rfl rfl ?_
      obtain ⟨r19, h18, hf⟩ := bd_s hf
      refine z_cVi C kl_Waves_265 rfl (c_Tidings_uncorrectedHouses (zxv hx 1 rfl) h18) (zlv (zxv hx 1 rfl) 24 rfl) rfl rfl rfl (Nat.le_of_ble_eq_true rfl) ⟨(Nat.le_of_ble_eq_true rfl), (Nat.le_of_ble_eq_true rfl)⟩ ⟨(Nat.le_of_ble_eq_true rfl), (Nat.le_of_ble_eq_true rfl)⟩ d_Waves_reached_108 ?_
      obtain ⟨r21, h20, hf⟩ := bd_s hf
      refine z_cSi C kl_Waves_299 (c_Integer_bitCount h20) rfl rfl (Nat.le_of_ble_eq_true rfl) ⟨(Nat.le_of_ble_eq_true rfl), (Nat.le_of_ble_eq_true rfl)⟩ ⟨(Nat.le_of_ble_eq_true rfl), (Nat.le_of_ble_eq_true rfl)⟩ d_Waves_reached_111 ?_
      cases hf
      exact z_iret C rfl (Nat.le_of_ble_eq_true rfl) (Nat.le_of_ble_eq_true rfl) d_Waves_reached_114
abbrev rm_Waves_correctedIn : Room := { frames := 7, cells := 0, slots := 0, locals := 153 }
theorem d_Waves_correctedIn_0 : decode b_Waves_correctedIn 0 = .ok (.aload_n 0, 1) := by decide +kernel
theorem d_Waves_correctedIn_1 : decode b_Waves_correctedIn 1 = .ok (.iload_n 1, 1) := by decide +kernel
theorem d_Waves_correctedIn_2 : decode b_Waves_correctedIn 2 = .ok (.invokevirtual 238, 3) := by decide +kernel
theorem d_Waves_correctedIn_5 : decode b_Waves_correctedIn 5 = .ok (.iload_n 2, 1) := by decide +kernel
theorem d_Waves_correctedIn_6 : decode b_Waves_correctedIn 6 = .ok (.iconst 1, 1) := by decide +kernel
theorem d_Waves_correctedIn_7 : decode b_Waves_correctedIn 7 = .ok (.sipush 500, 3) := by decide +kernel
theorem d_Waves_correctedIn_10 : decode b_Waves_correctedIn 10 = .ok (.invokestatic 56, 3) := by decide +kernel
theorem d_Waves_correctedIn_13 : decode b_Waves_correctedIn 13 = .ok (.aload_n 0, 1) := by decide +kernel
theorem d_Waves_correctedIn_14 : decode b_Waves_correctedIn 14 = .ok (.getfield 10, 3) := by decide +kernel
theorem d_Waves_correctedIn_17 : decode b_Waves_correctedIn 17 = .ok (.getfield 145, 3) := by decide +kernel
theorem d_Waves_correctedIn_20 : decode b_Waves_correctedIn 20 = .ok (.iload_n 1, 1) := by decide +kernel
theorem d_Waves_correctedIn_21 : decode b_Waves_correctedIn 21 = .ok (.invokevirtual 292, 3) := by decide +kernel
theorem d_Waves_correctedIn_24 : decode b_Waves_correctedIn 24 = .ok (.ifCond .ne 5, 3) := by decide +kernel
theorem d_Waves_correctedIn_27 : decode b_Waves_correctedIn 27 = .ok (.iconst (-1), 1) := by decide +kernel
theorem d_Waves_correctedIn_28 : decode b_Waves_correctedIn 28 = .ok (.ireturn, 1) := by decide +kernel
theorem d_Waves_correctedIn_29 : decode b_Waves_correctedIn 29 = .ok (.aload_n 0, 1) := by decide +kernel
theorem d_Waves_correctedIn_30 : decode b_Waves_correctedIn 30 = .ok (.getfield 16, 3) := by decide +kernel
theorem d_Waves_correctedIn_33 : decode b_Waves_correctedIn 33 = .ok (.aload_n 0, 1) := by decide +kernel
theorem d_Waves_correctedIn_34 : decode b_Waves_correctedIn 34 = .ok (.getfield 10, 3) := by decide +kernel
theorem d_Waves_correctedIn_37 : decode b_Waves_correctedIn 37 = .ok (.invokevirtual 64, 3) := by decide +kernel
theorem d_Waves_correctedIn_40 : decode b_Waves_correctedIn 40 = .ok (.iconst 0, 1) := by decide +kernel
theorem d_Waves_correctedIn_41 : decode b_Waves_correctedIn 41 = .ok (.istore_n 3, 1) := by decide +kernel
theorem d_Waves_correctedIn_42 : decode b_Waves_correctedIn 42 = .ok (.iload_n 3, 1) := by decide +kernel
theorem d_Waves_correctedIn_43 : decode b_Waves_correctedIn 43 = .ok (.iload_n 2, 1) := by decide +kernel
theorem d_Waves_correctedIn_44 : decode b_Waves_correctedIn 44 = .ok (.if_icmp .gt 32, 3) := by decide +kernel
theorem d_Waves_correctedIn_47 : decode b_Waves_correctedIn 47 = .ok (.aload_n 0, 1) := by decide +kernel
theorem d_Waves_correctedIn_48 : decode b_Waves_correctedIn 48 = .ok (.getfield 16, 3) := by decide +kernel
theorem d_Waves_correctedIn_51 : decode b_Waves_correctedIn 51 = .ok (.getfield 145, 3) := by decide +kernel
theorem d_Waves_correctedIn_54 : decode b_Waves_correctedIn 54 = .ok (.iload_n 1, 1) := by decide +kernel
theorem d_Waves_correctedIn_55 : decode b_Waves_correctedIn 55 = .ok (.invokevirtual 265, 3) := by decide +kernel
theorem d_Waves_correctedIn_58 : decode b_Waves_correctedIn 58 = .ok (.ifCond .ne 5, 3) := by decide +kernel
theorem d_Waves_correctedIn_61 : decode b_Waves_correctedIn 61 = .ok (.iload_n 3, 1) := by decide +kernel
theorem d_Waves_correctedIn_62 : decode b_Waves_correctedIn 62 = .ok (.ireturn, 1) := by decide +kernel
theorem d_Waves_correctedIn_63 : decode b_Waves_correctedIn 63 = .ok (.aload_n 0, 1) := by decide +kernel
theorem d_Waves_correctedIn_64 : decode b_Waves_correctedIn 64 = .ok (.getfield 16, 3) := by decide +kernel
theorem d_Waves_correctedIn_67 : decode b_Waves_correctedIn 67 = .ok (.invokevirtual 326, 3) := by decide +kernel
theorem d_Waves_correctedIn_70 : decode b_Waves_correctedIn 70 = .ok (.iinc 3 1, 3) := by decide +kernel
theorem d_Waves_correctedIn_73 : decode b_Waves_correctedIn 73 = .ok (.goto (-31), 3) := by decide +kernel
theorem d_Waves_correctedIn_76 : decode b_Waves_correctedIn 76 = .ok (.iconst (-1), 1) := by decide +kernel
theorem d_Waves_correctedIn_77 : decode b_Waves_correctedIn 77 = .ok (.ireturn, 1) := by decide +kernel
def L_Waves_correctedIn : Nat → Nat → Int32 → Int32 → Int32 → zSt → Option (Int32 × zSt)
  | 0, _, _, _, _, _ => none
  | n + 1, 0, x1, x2, x3, σ => if x2 < x3 then some ((-1 : Int32), σ) else ((F_Tidings_uncorrectedHouses 1 x1 σ).bind fun r9 => if r9 = 0 then some (x3, σ) else ((F_Village_minute 1 σ).bind fun σ11 => L_Waves_correctedIn n 0 x1 x2 (x3 + (1 : Int32)) σ11))
  | _ + 1, _, _, _, _, _ => none
theorem e_Waves_correctedIn_0 (n : Nat) (x1 : Int32) (x2 : Int32) (x3 : Int32) (σ : zSt) : L_Waves_correctedIn (n + 1) 0 x1 x2 x3 σ = (if x2 < x3 then some ((-1 : Int32), σ) else ((F_Tidings_uncorrectedHouses 1 x1 σ).bind fun r9 => if r9 = 0 then some (x3, σ) else ((F_Village_minute 1 σ).bind fun σ11 => L_Waves_correctedIn n 0 x1 x2 (x3 + (1 : Int32)) σ11))) := rfl
set_option maxHeartbeats 4000000 in
set_option maxRecDepth 100000 in
theorem w_Waves_correctedIn {l : Launch} {G : zLA} {p : Program} {e : Env} {s : State} {m : MethodId} {args : Array Value} {below : List Frame} {meth : Method} {c : Code} (C : zCx G p s m args meth c "VillageWaves" b_Waves_correctedIn 4 (some .int)) (hx : zxl G) {r : Int32} {σ' : zSt} : ∀ n : Nat, (∀ (x1 : Int32) (x2 : Int32) (x3 : Int32) (σ : zSt), L_Waves_correctedIn n 0 x1 x2 x3 σ = some (r, σ') → zWV G p l e rm_Waves_correctedIn s m args below meth c 4 0 0 (zQ G below args s rm_Waves_correctedIn (some (.int r)) σ') 42 [(0, .ref (zad G 4 70)), (1, .int x1), (2, .int x2), (3, .int x3)] [] σ) := by
  intro n
  induction n with
  | zero => exact fun _ _ _ _ hf => (by cases hf)
  | succ n ih =>
    refine ?_
    · intro x1 x2 x3 σ hf
      rw [e_Waves_correctedIn_0] at hf
      refine z_iload_n C d_Waves_correctedIn_42 3 rfl rfl ?_
      refine z_iload_n C d_Waves_correctedIn_43 2 rfl rfl ?_
      refine z_icmp_gt (tgt := 76) C d_Waves_correctedIn_44 rfl (fun h13 => ?_) (fun h13 => ?_)
      · have hf := iff_t hf h13
        refine z_iconst C d_Waves_correctedIn_76 zki_m1 ?_
        cases hf
        exact z_iret C rfl (Nat.le_of_ble_eq_true rfl) (Nat.le_of_ble_eq_true rfl) d_Waves_correctedIn_77
      · have hf := iff_f hf h13
        refine z_aload_n C d_Waves_correctedIn_47 0 rfl rfl ?_
        refine gf_Waves_16 C (zx4 hx 70 rfl) rfl rfl d_Waves_correctedIn_48 ?_
        refine gf_Waves_145 C (zlv (zxv hx 1 rfl) 0 rfl) rfl rfl d_Waves_correctedIn_51 ?_
        refine z_iload_n C d_Waves_correctedIn_54 1 rfl rfl ?_
        obtain ⟨r9, h8, hf⟩ := bd_s hf
        refine z_cVi C kl_Waves_265 rfl (c_Tidings_uncorrectedHouses (zxv hx 1 rfl) h8) (zlv (zxv hx 1 rfl) 24 rfl) rfl rfl rfl (Nat.le_of_ble_eq_true rfl) ⟨(Nat.le_of_ble_eq_true rfl), (Nat.le_of_ble_eq_true rfl)⟩ ⟨(Nat.le_of_ble_eq_true rfl), (Nat.le_of_ble_eq_true rfl)⟩ d_Waves_correctedIn_55 ?_
        refine z_if_ne (tgt := 63) C d_Waves_correctedIn_58 rfl (fun h12 => ?_) (fun h12 => ?_)
        · have hf := iff_f hf h12
          refine z_aload_n C d_Waves_correctedIn_63 0 rfl rfl ?_
          refine gf_Waves_16 C (zx4 hx 70 rfl) rfl rfl d_Waves_correctedIn_64 ?_
          obtain ⟨σ11, h10, hf⟩ := bd_s hf
          refine z_cVv C kl_Waves_326 rfl (c_Village_minute (zxv hx 1 rfl) h10) (zlv (zxv hx 1 rfl) 0 rfl) rfl rfl rfl (Nat.le_of_ble_eq_true rfl) ⟨(Nat.le_of_ble_eq_true rfl), (Nat.le_of_ble_eq_true rfl)⟩ ⟨(Nat.le_of_ble_eq_true rfl), (Nat.le_of_ble_eq_true rfl)⟩ d_Waves_correctedIn_67 ?_
          refine z_iinc C d_Waves_correctedIn_70 3 rfl zki_1 (by decide) ?_
          refine z_goto (tgt := 42) C d_Waves_correctedIn_73 rfl ?_
          exact z_sub [1, 2, 3, 0] rfl (ih _ _ _ _ hf)
        · have hf := iff_t hf h12
          refine z_iload_n C d_Waves_correctedIn_61 3 rfl rfl ?_
          cases hf
          exact z_iret C rfl (Nat.le_of_ble_eq_true rfl) (Nat.le_of_ble_eq_true rfl) d_Waves_correctedIn_62
def F_Waves_correctedIn (a0 : Int32) (a1 : Int32) (σ : zSt) : Option (Int32 × zSt) :=
  (F_Waves_checkNews a0 σ).bind fun _ => (F_Waves_checkWithin a1 (1 : Int32) (500 : Int32) σ).bind fun _ => (F_Tidings_isCorrected 0 a0 σ).bind fun r4 => if r4 = 0 then some ((-1 : Int32), σ) else ((F_Village_copyFrom 1 0 σ).bind fun σ6 => L_Waves_correctedIn zK 0 a0 a1 (0 : Int32) σ6)
set_option maxHeartbeats 4000000 in
set_option maxRecDepth 100000 in
theorem c_Waves_correctedIn {l : Launch} {G : zLA} (hx : zxl G) {a0 : Int32} {a1 : Int32} {σ : zSt} {r : Int32} {σ' : zSt} (hf : F_Waves_correctedIn a0 a1 σ = some (r, σ')) : zM l G y_Waves_correctedIn (zws y_Waves_correctedIn b_Waves_correctedIn 4 (some .int)) rm_Waves_correctedIn [.ref (zad G 4 70), .int a0, .int a1] σ (some (.int r)) σ' := by
  refine z_ofM (own := "VillageWaves") (lv := [(0, .ref (zad G 4 70)), (1, .int a0), (2, .int a1)]) (by decide +kernel) rfl rfl (Nat.le_of_ble_eq_true rfl) (fun p e s m args below meth c C => ?_)
  rw [F_Waves_correctedIn] at hf
  refine z_aload_n C d_Waves_correctedIn_0 0 rfl rfl ?_
  refine z_iload_n C d_Waves_correctedIn_1 1 rfl rfl ?_
  obtain ⟨_, h1, hf⟩ := bd_s hf
  refine z_cVv C kl_Waves_238 rfl (c_Waves_checkNews hx h1) (zx4 hx 70 rfl) rfl rfl rfl (Nat.le_of_ble_eq_true rfl) ⟨(Nat.le_of_ble_eq_true rfl), (Nat.le_of_ble_eq_true rfl)⟩ ⟨(Nat.le_of_ble_eq_true rfl), (Nat.le_of_ble_eq_true rfl)⟩ d_Waves_correctedIn_2 ?_
  refine z_iload_n C d_Waves_correctedIn_5 2 rfl rfl ?_
  refine z_iconst C d_Waves_correctedIn_6 zki_1 ?_
  refine z_sipush C d_Waves_correctedIn_7 zks_500 ?_
  obtain ⟨_, h2, hf⟩ := bd_s hf
  refine z_cSv C kl_Waves_56 (c_Waves_checkWithin h2) rfl rfl (Nat.le_of_ble_eq_true rfl) ⟨(Nat.le_of_ble_eq_true rfl), (Nat.le_of_ble_eq_true rfl)⟩ ⟨(Nat.le_of_ble_eq_true rfl), (Nat.le_of_ble_eq_true rfl)⟩ d_Waves_correctedIn_10 ?_
  refine z_aload_n C d_Waves_correctedIn_13 0 rfl rfl ?_
  refine gf_Waves_10 C (zx4 hx 70 rfl) rfl rfl d_Waves_correctedIn_14 ?_
  refine gf_Waves_145 C (zlv (zxv hx 0 rfl) 0 rfl) rfl rfl d_Waves_correctedIn_17 ?_
  refine z_iload_n C d_Waves_correctedIn_20 1 rfl rfl ?_
  obtain ⟨r4, h3, hf⟩ := bd_s hf
  refine z_cVi C kl_Waves_292 rfl (c_Tidings_isCorrected (zxv hx 0 rfl) h3) (zlv (zxv hx 0 rfl) 24 rfl) rfl rfl rfl (Nat.le_of_ble_eq_true rfl) ⟨(Nat.le_of_ble_eq_true rfl), (Nat.le_of_ble_eq_true rfl)⟩ ⟨(Nat.le_of_ble_eq_true rfl), (Nat.le_of_ble_eq_true rfl)⟩ d_Waves_correctedIn_21 ?_
  refine z_if_ne (tgt := 29) C d_Waves_correctedIn_24 rfl (fun h7 => ?_) (fun h7 => ?_)
  · have hf := iff_f hf h7
    refine z_aload_n C d_Waves_correctedIn_29 0 rfl rfl ?_
    refine gf_Waves_16 C (zx4 hx 70 rfl) rfl rfl d_Waves_correctedIn_30 ?_
    refine z_aload_n C d_Waves_correctedIn_33 0 rfl rfl ?_
    refine gf_Waves_10 C (zx4 hx 70 rfl) rfl rfl d_Waves_correctedIn_34 ?_
    obtain ⟨σ6, h5, hf⟩ := bd_s hf
    refine z_cVv C kl_Waves_64 rfl (c_Village_copyFrom (zxv hx 1 rfl) (zxv hx 0 rfl) h5) (zlv (zxv hx 1 rfl) 0 rfl) rfl rfl rfl (Nat.le_of_ble_eq_true rfl) ⟨(Nat.le_of_ble_eq_true rfl), (Nat.le_of_ble_eq_true rfl)⟩ ⟨(Nat.le_of_ble_eq_true rfl), (Nat.le_of_ble_eq_true rfl)⟩ d_Waves_correctedIn_37 ?_
    refine z_iconst C d_Waves_correctedIn_40 zki_0 ?_
    refine z_istore_n C d_Waves_correctedIn_41 rfl (by decide) ?_
    exact z_sub [1, 2, 3, 0] rfl ((w_Waves_correctedIn C hx zK) _ _ _ _ hf)
  · have hf := iff_t hf h7
    refine z_iconst C d_Waves_correctedIn_27 zki_m1 ?_
    cases hf
    exact z_iret C rfl (Nat.le_of_ble_eq_true rfl) (Nat.le_of_ble_eq_true rfl) d_Waves_correctedIn_28
abbrev rm_Waves_sizesOf : Room := { frames := 1, cells := 0, slots := 0, locals := 21 }
theorem d_Waves_sizesOf_0 : decode b_Waves_sizesOf 0 = .ok (.iconst 0, 1) := by decide +kernel
theorem d_Waves_sizesOf_1 : decode b_Waves_sizesOf 1 = .ok (.istore_n 3, 1) := by decide +kernel
theorem d_Waves_sizesOf_2 : decode b_Waves_sizesOf 2 = .ok (.iconst 0, 1) := by decide +kernel
theorem d_Waves_sizesOf_3 : decode b_Waves_sizesOf 3 = .ok (.istore 4, 2) := by decide +kernel
theorem d_Waves_sizesOf_5 : decode b_Waves_sizesOf 5 = .ok (.iload 4, 2) := by decide +kernel
theorem d_Waves_sizesOf_7 : decode b_Waves_sizesOf 7 = .ok (.aload_n 0, 1) := by decide +kernel
theorem d_Waves_sizesOf_8 : decode b_Waves_sizesOf 8 = .ok (.getfield 10, 3) := by decide +kernel
theorem d_Waves_sizesOf_11 : decode b_Waves_sizesOf 11 = .ok (.getfield 145, 3) := by decide +kernel
theorem d_Waves_sizesOf_14 : decode b_Waves_sizesOf 14 = .ok (.getfield 149, 3) := by decide +kernel
theorem d_Waves_sizesOf_17 : decode b_Waves_sizesOf 17 = .ok (.if_icmp .ge 31, 3) := by decide +kernel
theorem d_Waves_sizesOf_20 : decode b_Waves_sizesOf 20 = .ok (.iload_n 3, 1) := by decide +kernel
theorem d_Waves_sizesOf_21 : decode b_Waves_sizesOf 21 = .ok (.aload_n 1, 1) := by decide +kernel
theorem d_Waves_sizesOf_22 : decode b_Waves_sizesOf 22 = .ok (.iload 4, 2) := by decide +kernel
theorem d_Waves_sizesOf_24 : decode b_Waves_sizesOf 24 = .ok (.invokevirtual 123, 3) := by decide +kernel
theorem d_Waves_sizesOf_27 : decode b_Waves_sizesOf 27 = .ok (.invokestatic 299, 3) := by decide +kernel
theorem d_Waves_sizesOf_30 : decode b_Waves_sizesOf 30 = .ok (.aload_n 2, 1) := by decide +kernel
theorem d_Waves_sizesOf_31 : decode b_Waves_sizesOf 31 = .ok (.iload 4, 2) := by decide +kernel
theorem d_Waves_sizesOf_33 : decode b_Waves_sizesOf 33 = .ok (.invokevirtual 123, 3) := by decide +kernel
theorem d_Waves_sizesOf_36 : decode b_Waves_sizesOf 36 = .ok (.invokestatic 299, 3) := by decide +kernel
theorem d_Waves_sizesOf_39 : decode b_Waves_sizesOf 39 = .ok (.isub, 1) := by decide +kernel
theorem d_Waves_sizesOf_40 : decode b_Waves_sizesOf 40 = .ok (.iadd, 1) := by decide +kernel
theorem d_Waves_sizesOf_41 : decode b_Waves_sizesOf 41 = .ok (.istore_n 3, 1) := by decide +kernel
theorem d_Waves_sizesOf_42 : decode b_Waves_sizesOf 42 = .ok (.iinc 4 1, 3) := by decide +kernel
theorem d_Waves_sizesOf_45 : decode b_Waves_sizesOf 45 = .ok (.goto (-40), 3) := by decide +kernel
theorem d_Waves_sizesOf_48 : decode b_Waves_sizesOf 48 = .ok (.iload_n 3, 1) := by decide +kernel
theorem d_Waves_sizesOf_49 : decode b_Waves_sizesOf 49 = .ok (.ireturn, 1) := by decide +kernel
def L_Waves_sizesOf (v : Nat) (o : Nat) (v3 : Nat) (o3 : Nat) (σ : zSt) : Nat → Nat → Int32 → Int32 → Option (Int32)
  | 0, _, _, _ => none
  | n + 1, 0, x3, x4 => if (σ.1 0 24 0) ≤ x4 then some x3 else ((F_Row_get v o x4 σ).bind fun r2 => (F_Integer_bitCount r2).bind fun r4 => (F_Row_get v3 o3 x4 σ).bind fun r6 => (F_Integer_bitCount r6).bind fun r8 => L_Waves_sizesOf v o v3 o3 σ n 0 (x3 + (r4 - r8)) (x4 + (1 : Int32)))
  | _ + 1, _, _, _ => none
theorem e_Waves_sizesOf_0 (v : Nat) (o : Nat) (v3 : Nat) (o3 : Nat) (σ : zSt) (n : Nat) (x3 : Int32) (x4 : Int32) : L_Waves_sizesOf v o v3 o3 σ (n + 1) 0 x3 x4 = (if (σ.1 0 24 0) ≤ x4 then some x3 else ((F_Row_get v o x4 σ).bind fun r2 => (F_Integer_bitCount r2).bind fun r4 => (F_Row_get v3 o3 x4 σ).bind fun r6 => (F_Integer_bitCount r6).bind fun r8 => L_Waves_sizesOf v o v3 o3 σ n 0 (x3 + (r4 - r8)) (x4 + (1 : Int32)))) := rfl
set_option maxHeartbeats 4000000 in
set_option maxRecDepth 100000 in
theorem w_Waves_sizesOf {l : Launch} {G : zLA} {p : Program} {e : Env} {s : State} {m : MethodId} {args : Array Value} {below : List Frame} {meth : Method} {c : Code} (C : zCx G p s m args meth c "VillageWaves" b_Waves_sizesOf 5 (some .int)) (hx : zxl G) {v : Nat} {o : Nat} (ho : zrow G v o) {v3 : Nat} {o3 : Nat} (ho3 : zrow G v3 o3) {σ : zSt} {r : Int32} : ∀ n : Nat, (∀ (x3 : Int32) (x4 : Int32), L_Waves_sizesOf v o v3 o3 σ n 0 x3 x4 = some r → zWV G p l e rm_Waves_sizesOf s m args below meth c 5 0 0 (zQ G below args s rm_Waves_sizesOf (some (.int r)) σ) 5 [(0, .ref (zad G 4 70)), (1, .ref (zad G v o)), (2, .ref (zad G v3 o3)), (3, .int x3), (4, .int x4)] [] σ) := by
  intro n
  induction n with
  | zero => exact fun _ _ hf => (by cases hf)
  | succ n ih =>
    refine ?_
    · intro x3 x4 hf
      rw [e_Waves_sizesOf_0] at hf
      refine z_iload C d_Waves_sizesOf_5 4 rfl ?_
      refine z_aload_n C d_Waves_sizesOf_7 0 rfl rfl ?_
      refine gf_Waves_10 C (zx4 hx 70 rfl) rfl rfl d_Waves_sizesOf_8 ?_
      refine gf_Waves_145 C (zlv (zxv hx 0 rfl) 0 rfl) rfl rfl d_Waves_sizesOf_11 ?_
      refine gf_Waves_149 C (zlv (zxv hx 0 rfl) 24 rfl) rfl rfl d_Waves_sizesOf_14 ?_
      refine z_icmp_ge (tgt := 48) C d_Waves_sizesOf_17 rfl (fun h9 => ?_) (fun h9 => ?_)
      · have hf := iff_t hf h9
        refine z_iload_n C d_Waves_sizesOf_48 3 rfl rfl ?_
        cases hf
        exact z_iret C rfl (Nat.le_of_ble_eq_true rfl) (Nat.le_of_ble_eq_true rfl) d_Waves_sizesOf_49
      · have hf := iff_f hf h9
        refine z_iload_n C d_Waves_sizesOf_20 3 rfl rfl ?_
        refine z_aload_n C d_Waves_sizesOf_21 1 rfl rfl ?_
        refine z_iload C d_Waves_sizesOf_22 4 rfl ?_
        obtain ⟨r2, h1, hf⟩ := bd_s hf
        refine z_cVi C kl_Waves_123 rfl (c_Row_get ho h1) ho.1 (ho.2.2.1 _ _ _ _) rfl rfl (Nat.le_of_ble_eq_true rfl) ⟨(Nat.le_of_ble_eq_true rfl), (Nat.le_of_ble_eq_true rfl)⟩ ⟨(Nat.le_of_ble_eq_true rfl), (Nat.le_of_ble_eq_true rfl)⟩ d_Waves_sizesOf_24 ?_
        obtain ⟨r4, h3, hf⟩ := bd_s hf
        refine z_cSi C kl_Waves_299 (c_Integer_bitCount h3) rfl rfl (Nat.le_of_ble_eq_true rfl) ⟨(Nat.le_of_ble_eq_true rfl), (Nat.le_of_ble_eq_true rfl)⟩ ⟨(Nat.le_of_ble_eq_true rfl), (Nat.le_of_ble_eq_true rfl)⟩ d_Waves_sizesOf_27 ?_
        refine z_aload_n C d_Waves_sizesOf_30 2 rfl rfl ?_
        refine z_iload C d_Waves_sizesOf_31 4 rfl ?_
        obtain ⟨r6, h5, hf⟩ := bd_s hf
        refine z_cVi C kl_Waves_123 rfl (c_Row_get ho3 h5) ho3.1 (ho3.2.2.1 _ _ _ _) rfl rfl (Nat.le_of_ble_eq_true rfl) ⟨(Nat.le_of_ble_eq_true rfl), (Nat.le_of_ble_eq_true rfl)⟩ ⟨(Nat.le_of_ble_eq_true rfl), (Nat.le_of_ble_eq_true rfl)⟩ d_Waves_sizesOf_33 ?_
        obtain ⟨r8, h7, hf⟩ := bd_s hf
        refine z_cSi C kl_Waves_299 (c_Integer_bitCount h7) rfl rfl (Nat.le_of_ble_eq_true rfl) ⟨(Nat.le_of_ble_eq_true rfl), (Nat.le_of_ble_eq_true rfl)⟩ ⟨(Nat.le_of_ble_eq_true rfl), (Nat.le_of_ble_eq_true rfl)⟩ d_Waves_sizesOf_36 ?_
        refine z_isub C d_Waves_sizesOf_39 ?_
        refine z_iadd C d_Waves_sizesOf_40 ?_
        refine z_istore_n C d_Waves_sizesOf_41 rfl (by decide) ?_
        refine z_iinc C d_Waves_sizesOf_42 4 rfl zki_1 (by decide) ?_
        refine z_goto (tgt := 5) C d_Waves_sizesOf_45 rfl ?_
        exact z_sub [2, 3, 4, 1, 0] rfl (ih _ _ hf)
def F_Waves_sizesOf (v : Nat) (o : Nat) (v3 : Nat) (o3 : Nat) (σ : zSt) : Option (Int32) :=
  L_Waves_sizesOf v o v3 o3 σ zK 0 (0 : Int32) (0 : Int32)
set_option maxHeartbeats 4000000 in
set_option maxRecDepth 100000 in
theorem c_Waves_sizesOf {l : Launch} {G : zLA} (hx : zxl G) {v : Nat} {o : Nat} (ho : zrow G v o) {v3 : Nat} {o3 : Nat} (ho3 : zrow G v3 o3) {σ : zSt} {r : Int32} (hf : F_Waves_sizesOf v o v3 o3 σ = some r) : zM l G y_Waves_sizesOf (zws y_Waves_sizesOf b_Waves_sizesOf 5 (some .int)) rm_Waves_sizesOf [.ref (zad G 4 70), .ref (zad G v o), .ref (zad G v3 o3)] σ (some (.int r)) σ := by
  refine z_ofM (own := "VillageWaves") (lv := [(0, .ref (zad G 4 70)), (1, .ref (zad G v o)), (2, .ref (zad G v3 o3))]) (by decide +kernel) rfl rfl (Nat.le_of_ble_eq_true rfl) (fun p e s m args below meth c C => ?_)
  rw [F_Waves_sizesOf] at hf
  refine z_iconst C d_Waves_sizesOf_0 zki_0 ?_
  refine z_istore_n C d_Waves_sizesOf_1 rfl (by decide) ?_
  refine z_iconst C d_Waves_sizesOf_2 zki_0 ?_
  refine z_istore C d_Waves_sizesOf_3 (by decide) ?_
  exact z_sub [2, 3, 4, 1, 0] rfl ((w_Waves_sizesOf C hx ho ho3 zK) _ _ hf)
abbrev rm_Waves_ahead : Room := { frames := 7, cells := 0, slots := 0, locals := 153 }
theorem d_Waves_ahead_0 : decode b_Waves_ahead 0 = .ok (.iload_n 1, 1) := by decide +kernel
theorem d_Waves_ahead_1 : decode b_Waves_ahead 1 = .ok (.iconst 1, 1) := by decide +kernel
theorem d_Waves_ahead_2 : decode b_Waves_ahead 2 = .ok (.sipush 500, 3) := by decide +kernel
theorem d_Waves_ahead_5 : decode b_Waves_ahead 5 = .ok (.invokestatic 56, 3) := by decide +kernel
theorem d_Waves_ahead_8 : decode b_Waves_ahead 8 = .ok (.iload_n 2, 1) := by decide +kernel
theorem d_Waves_ahead_9 : decode b_Waves_ahead 9 = .ok (.iconst 0, 1) := by decide +kernel
theorem d_Waves_ahead_10 : decode b_Waves_ahead 10 = .ok (.iconst 3, 1) := by decide +kernel
theorem d_Waves_ahead_11 : decode b_Waves_ahead 11 = .ok (.invokestatic 56, 3) := by decide +kernel
theorem d_Waves_ahead_14 : decode b_Waves_ahead 14 = .ok (.aload_n 0, 1) := by decide +kernel
theorem d_Waves_ahead_15 : decode b_Waves_ahead 15 = .ok (.getfield 16, 3) := by decide +kernel
theorem d_Waves_ahead_18 : decode b_Waves_ahead 18 = .ok (.aload_n 0, 1) := by decide +kernel
theorem d_Waves_ahead_19 : decode b_Waves_ahead 19 = .ok (.getfield 10, 3) := by decide +kernel
theorem d_Waves_ahead_22 : decode b_Waves_ahead 22 = .ok (.invokevirtual 64, 3) := by decide +kernel
theorem d_Waves_ahead_25 : decode b_Waves_ahead 25 = .ok (.aload_n 0, 1) := by decide +kernel
theorem d_Waves_ahead_26 : decode b_Waves_ahead 26 = .ok (.getfield 16, 3) := by decide +kernel
theorem d_Waves_ahead_29 : decode b_Waves_ahead 29 = .ok (.iload_n 1, 1) := by decide +kernel
theorem d_Waves_ahead_30 : decode b_Waves_ahead 30 = .ok (.invokevirtual 304, 3) := by decide +kernel
theorem d_Waves_ahead_33 : decode b_Waves_ahead 33 = .ok (.iload_n 2, 1) := by decide +kernel
theorem d_Waves_ahead_34 : decode b_Waves_ahead 34 = .ok (.tableswitch 98 0 2 #[26, 48, 73], 26) := by decide +kernel
theorem d_Waves_ahead_60 : decode b_Waves_ahead 60 = .ok (.aload_n 0, 1) := by decide +kernel
theorem d_Waves_ahead_61 : decode b_Waves_ahead 61 = .ok (.getfield 16, 3) := by decide +kernel
theorem d_Waves_ahead_64 : decode b_Waves_ahead 64 = .ok (.getfield 155, 3) := by decide +kernel
theorem d_Waves_ahead_67 : decode b_Waves_ahead 67 = .ok (.getfield 159, 3) := by decide +kernel
theorem d_Waves_ahead_70 : decode b_Waves_ahead 70 = .ok (.aload_n 0, 1) := by decide +kernel
theorem d_Waves_ahead_71 : decode b_Waves_ahead 71 = .ok (.getfield 10, 3) := by decide +kernel
theorem d_Waves_ahead_74 : decode b_Waves_ahead 74 = .ok (.getfield 155, 3) := by decide +kernel
theorem d_Waves_ahead_77 : decode b_Waves_ahead 77 = .ok (.getfield 159, 3) := by decide +kernel
theorem d_Waves_ahead_80 : decode b_Waves_ahead 80 = .ok (.isub, 1) := by decide +kernel
theorem d_Waves_ahead_81 : decode b_Waves_ahead 81 = .ok (.ireturn, 1) := by decide +kernel
theorem d_Waves_ahead_82 : decode b_Waves_ahead 82 = .ok (.aload_n 0, 1) := by decide +kernel
theorem d_Waves_ahead_83 : decode b_Waves_ahead 83 = .ok (.aload_n 0, 1) := by decide +kernel
theorem d_Waves_ahead_84 : decode b_Waves_ahead 84 = .ok (.getfield 16, 3) := by decide +kernel
theorem d_Waves_ahead_87 : decode b_Waves_ahead 87 = .ok (.getfield 145, 3) := by decide +kernel
theorem d_Waves_ahead_90 : decode b_Waves_ahead 90 = .ok (.getfield 259, 3) := by decide +kernel
theorem d_Waves_ahead_93 : decode b_Waves_ahead 93 = .ok (.aload_n 0, 1) := by decide +kernel
theorem d_Waves_ahead_94 : decode b_Waves_ahead 94 = .ok (.getfield 10, 3) := by decide +kernel
theorem d_Waves_ahead_97 : decode b_Waves_ahead 97 = .ok (.getfield 145, 3) := by decide +kernel
theorem d_Waves_ahead_100 : decode b_Waves_ahead 100 = .ok (.getfield 259, 3) := by decide +kernel
theorem d_Waves_ahead_103 : decode b_Waves_ahead 103 = .ok (.invokevirtual 329, 3) := by decide +kernel
theorem d_Waves_ahead_106 : decode b_Waves_ahead 106 = .ok (.ireturn, 1) := by decide +kernel
theorem d_Waves_ahead_107 : decode b_Waves_ahead 107 = .ok (.aload_n 0, 1) := by decide +kernel
theorem d_Waves_ahead_108 : decode b_Waves_ahead 108 = .ok (.aload_n 0, 1) := by decide +kernel
theorem d_Waves_ahead_109 : decode b_Waves_ahead 109 = .ok (.getfield 16, 3) := by decide +kernel
theorem d_Waves_ahead_112 : decode b_Waves_ahead 112 = .ok (.getfield 145, 3) := by decide +kernel
theorem d_Waves_ahead_115 : decode b_Waves_ahead 115 = .ok (.getfield 262, 3) := by decide +kernel
theorem d_Waves_ahead_118 : decode b_Waves_ahead 118 = .ok (.aload_n 0, 1) := by decide +kernel
theorem d_Waves_ahead_119 : decode b_Waves_ahead 119 = .ok (.getfield 10, 3) := by decide +kernel
theorem d_Waves_ahead_122 : decode b_Waves_ahead 122 = .ok (.getfield 145, 3) := by decide +kernel
theorem d_Waves_ahead_125 : decode b_Waves_ahead 125 = .ok (.getfield 262, 3) := by decide +kernel
theorem d_Waves_ahead_128 : decode b_Waves_ahead 128 = .ok (.invokevirtual 329, 3) := by decide +kernel
theorem d_Waves_ahead_131 : decode b_Waves_ahead 131 = .ok (.ireturn, 1) := by decide +kernel
theorem d_Waves_ahead_132 : decode b_Waves_ahead 132 = .ok (.aload_n 0, 1) := by decide +kernel
theorem d_Waves_ahead_133 : decode b_Waves_ahead 133 = .ok (.getfield 16, 3) := by decide +kernel
theorem d_Waves_ahead_136 : decode b_Waves_ahead 136 = .ok (.getfield 333, 3) := by decide +kernel
theorem d_Waves_ahead_139 : decode b_Waves_ahead 139 = .ok (.aload_n 0, 1) := by decide +kernel
theorem d_Waves_ahead_140 : decode b_Waves_ahead 140 = .ok (.getfield 10, 3) := by decide +kernel
theorem d_Waves_ahead_143 : decode b_Waves_ahead 143 = .ok (.getfield 333, 3) := by decide +kernel
theorem d_Waves_ahead_146 : decode b_Waves_ahead 146 = .ok (.isub, 1) := by decide +kernel
theorem d_Waves_ahead_147 : decode b_Waves_ahead 147 = .ok (.ireturn, 1) := by decide +kernel
def F_Waves_ahead (a0 : Int32) (a1 : Int32) (σ : zSt) : Option (Int32 × zSt) :=
  (F_Waves_checkWithin a0 (1 : Int32) (500 : Int32) σ).bind fun _ => (F_Waves_checkWithin a1 (0 : Int32) (3 : Int32) σ).bind fun _ => (F_Village_copyFrom 1 0 σ).bind fun σ4 => (F_Village_pass 1 a0 σ4).bind fun σ6 => if a1 = (0 : Int32) then some (((σ6.1 1 59 0) - (σ6.1 0 59 0)), σ6) else (if a1 = (1 : Int32) then ((F_Waves_sizesOf 1 37 0 37 σ6).bind fun r10 => some (r10, σ6)) else (if a1 = (2 : Int32) then ((F_Waves_sizesOf 1 39 0 39 σ6).bind fun r13 => some (r13, σ6)) else some (((σ6.1 1 0 3) - (σ6.1 0 0 3)), σ6)))
set_option maxHeartbeats 4000000 in
set_option maxRecDepth 100000 in
theorem c_Waves_ahead {l : Launch} {G : zLA} (hx : zxl G) {a0 : Int32} {a1 : Int32} {σ : zSt} {r : Int32} {σ' : zSt} (hf : F_Waves_ahead a0 a1 σ = some (r, σ')) : zM l G y_Waves_ahead (zws y_Waves_ahead b_Waves_ahead 3 (some .int)) rm_Waves_ahead [.ref (zad G 4 70), .int a0, .int a1] σ (some (.int r)) σ' := by
  refine z_ofM (own := "VillageWaves") (lv := [(0, .ref (zad G 4 70)), (1, .int a0), (2, .int a1)]) (by decide +kernel) rfl rfl (Nat.le_of_ble_eq_true rfl) (fun p e s m args below meth c C => ?_)
  rw [F_Waves_ahead] at hf
  refine z_iload_n C d_Waves_ahead_0 1 rfl rfl ?_
  refine z_iconst C d_Waves_ahead_1 zki_1 ?_
  refine z_sipush C d_Waves_ahead_2 zks_500 ?_
  obtain ⟨_, h1, hf⟩ := bd_s hf
  refine z_cSv C kl_Waves_56 (c_Waves_checkWithin h1) rfl rfl (Nat.le_of_ble_eq_true rfl) ⟨(Nat.le_of_ble_eq_true rfl), (Nat.le_of_ble_eq_true rfl)⟩ ⟨(Nat.le_of_ble_eq_true rfl), (Nat.le_of_ble_eq_true rfl)⟩ d_Waves_ahead_5 ?_
  refine z_iload_n C d_Waves_ahead_8 2 rfl rfl ?_
  refine z_iconst C d_Waves_ahead_9 zki_0 ?_
  refine z_iconst C d_Waves_ahead_10 zki_3 ?_
  obtain ⟨_, h2, hf⟩ := bd_s hf
  refine z_cSv C kl_Waves_56 (c_Waves_checkWithin h2) rfl rfl (Nat.le_of_ble_eq_true rfl) ⟨(Nat.le_of_ble_eq_true rfl), (Nat.le_of_ble_eq_true rfl)⟩ ⟨(Nat.le_of_ble_eq_true rfl), (Nat.le_of_ble_eq_true rfl)⟩ d_Waves_ahead_11 ?_
  refine z_aload_n C d_Waves_ahead_14 0 rfl rfl ?_
  refine gf_Waves_16 C (zx4 hx 70 rfl) rfl rfl d_Waves_ahead_15 ?_
  refine z_aload_n C d_Waves_ahead_18 0 rfl rfl ?_
  refine gf_Waves_10 C (zx4 hx 70 rfl) rfl rfl d_Waves_ahead_19 ?_
  obtain ⟨σ4, h3, hf⟩ := bd_s hf
  refine z_cVv C kl_Waves_64 rfl (c_Village_copyFrom (zxv hx 1 rfl) (zxv hx 0 rfl) h3) (zlv (zxv hx 1 rfl) 0 rfl) rfl rfl rfl (Nat.le_of_ble_eq_true rfl) ⟨(Nat.le_of_ble_eq_true rfl), (Nat.le_of_ble_eq_true rfl)⟩ ⟨(Nat.le_of_ble_eq_true rfl), (Nat.le_of_ble_eq_true rfl)⟩ d_Waves_ahead_22 ?_
  refine z_aload_n C d_Waves_ahead_25 0 rfl rfl ?_
  refine gf_Waves_16 C (zx4 hx 70 rfl) rfl rfl d_Waves_ahead_26 ?_
  refine z_iload_n C d_Waves_ahead_29 1 rfl rfl ?_
  obtain ⟨σ6, h5, hf⟩ := bd_s hf
  refine z_cVv C kl_Waves_304 rfl (c_Village_pass (zxv hx 1 rfl) h5) (zlv (zxv hx 1 rfl) 0 rfl) rfl rfl rfl (Nat.le_of_ble_eq_true rfl) ⟨(Nat.le_of_ble_eq_true rfl), (Nat.le_of_ble_eq_true rfl)⟩ ⟨(Nat.le_of_ble_eq_true rfl), (Nat.le_of_ble_eq_true rfl)⟩ d_Waves_ahead_30 ?_
  refine z_iload_n C d_Waves_ahead_33 2 rfl rfl ?_
  by_cases h7 : a1 = (0 : Int32)
  · have hf := iff_t hf h7
    refine z_tin (off := 26) (tgt := 60) C d_Waves_ahead_34 (by rw [h7]; decide) (by rw [h7]; decide) (by rw [h7]; rfl) rfl ?_
    refine z_aload_n C d_Waves_ahead_60 0 rfl rfl ?_
    refine gf_Waves_16 C (zx4 hx 70 rfl) rfl rfl d_Waves_ahead_61 ?_
    refine gf_Waves_155 C (zlv (zxv hx 1 rfl) 0 rfl) rfl rfl d_Waves_ahead_64 ?_
    refine gf_Waves_159 C (zlv (zxv hx 1 rfl) 59 rfl) rfl rfl d_Waves_ahead_67 ?_
    refine z_aload_n C d_Waves_ahead_70 0 rfl rfl ?_
    refine gf_Waves_10 C (zx4 hx 70 rfl) rfl rfl d_Waves_ahead_71 ?_
    refine gf_Waves_155 C (zlv (zxv hx 0 rfl) 0 rfl) rfl rfl d_Waves_ahead_74 ?_
    refine gf_Waves_159 C (zlv (zxv hx 0 rfl) 59 rfl) rfl rfl d_Waves_ahead_77 ?_
    refine z_isub C d_Waves_ahead_80 ?_
    cases hf
    exact z_iret C rfl (Nat.le_of_ble_eq_true rfl) (Nat.le_of_ble_eq_true rfl) d_Waves_ahead_81
  · have hf := iff_f hf h7
    by_cases h8 : a1 = (1 : Int32)
    · have hf := iff_t hf h8
      refine z_tin (off := 48) (tgt := 82) C d_Waves_ahead_34 (by rw [h8]; decide) (by rw [h8]; decide) (by rw [h8]; rfl) rfl ?_
      refine z_aload_n C d_Waves_ahead_82 0 rfl rfl ?_
      refine z_aload_n C d_Waves_ahead_83 0 rfl rfl ?_
      refine gf_Waves_16 C (zx4 hx 70 rfl) rfl rfl d_Waves_ahead_84 ?_
      refine gf_Waves_145 C (zlv (zxv hx 1 rfl) 0 rfl) rfl rfl d_Waves_ahead_87 ?_
      refine gf_Waves_259 C (zlv (zxv hx 1 rfl) 24 rfl) rfl rfl d_Waves_ahead_90 ?_
      refine z_aload_n C d_Waves_ahead_93 0 rfl rfl ?_
      refine gf_Waves_10 C (zx4 hx 70 rfl) rfl rfl d_Waves_ahead_94 ?_
      refine gf_Waves_145 C (zlv (zxv hx 0 rfl) 0 rfl) rfl rfl d_Waves_ahead_97 ?_
      refine gf_Waves_259 C (zlv (zxv hx 0 rfl) 24 rfl) rfl rfl d_Waves_ahead_100 ?_
      obtain ⟨r10, h9, hf⟩ := bd_s hf
      refine z_cVi C kl_Waves_329 rfl (c_Waves_sizesOf hx (zrow_v (zxv hx 1 rfl) 37 rfl) (zrow_v (zxv hx 0 rfl) 37 rfl) h9) (zx4 hx 70 rfl) rfl rfl rfl (Nat.le_of_ble_eq_true rfl) ⟨(Nat.le_of_ble_eq_true rfl), (Nat.le_of_ble_eq_true rfl)⟩ ⟨(Nat.le_of_ble_eq_true rfl), (Nat.le_of_ble_eq_true rfl)⟩ d_Waves_ahead_103 ?_
      cases hf
      exact z_iret C rfl (Nat.le_of_ble_eq_true rfl) (Nat.le_of_ble_eq_true rfl) d_Waves_ahead_106
    · have hf := iff_f hf h8
      by_cases h11 : a1 = (2 : Int32)
      · have hf := iff_t hf h11
        refine z_tin (off := 73) (tgt := 107) C d_Waves_ahead_34 (by rw [h11]; decide) (by rw [h11]; decide) (by rw [h11]; rfl) rfl ?_
        refine z_aload_n C d_Waves_ahead_107 0 rfl rfl ?_
        refine z_aload_n C d_Waves_ahead_108 0 rfl rfl ?_
        refine gf_Waves_16 C (zx4 hx 70 rfl) rfl rfl d_Waves_ahead_109 ?_
        refine gf_Waves_145 C (zlv (zxv hx 1 rfl) 0 rfl) rfl rfl d_Waves_ahead_112 ?_
        refine gf_Waves_262 C (zlv (zxv hx 1 rfl) 24 rfl) rfl rfl d_Waves_ahead_115 ?_
        refine z_aload_n C d_Waves_ahead_118 0 rfl rfl ?_
        refine gf_Waves_10 C (zx4 hx 70 rfl) rfl rfl d_Waves_ahead_119 ?_
        refine gf_Waves_145 C (zlv (zxv hx 0 rfl) 0 rfl) rfl rfl d_Waves_ahead_122 ?_
        refine gf_Waves_262 C (zlv (zxv hx 0 rfl) 24 rfl) rfl rfl d_Waves_ahead_125 ?_
        obtain ⟨r13, h12, hf⟩ := bd_s hf
        refine z_cVi C kl_Waves_329 rfl (c_Waves_sizesOf hx (zrow_v (zxv hx 1 rfl) 39 rfl) (zrow_v (zxv hx 0 rfl) 39 rfl) h12) (zx4 hx 70 rfl) rfl rfl rfl (Nat.le_of_ble_eq_true rfl) ⟨(Nat.le_of_ble_eq_true rfl), (Nat.le_of_ble_eq_true rfl)⟩ ⟨(Nat.le_of_ble_eq_true rfl), (Nat.le_of_ble_eq_true rfl)⟩ d_Waves_ahead_128 ?_
        cases hf
        exact z_iret C rfl (Nat.le_of_ble_eq_true rfl) (Nat.le_of_ble_eq_true rfl) d_Waves_ahead_131
      · have hf := iff_f hf h11
        refine z_tout (tgt := 132) C d_Waves_ahead_34 (ztab_0_2 h7 h8 h11) rfl ?_
        refine z_aload_n C d_Waves_ahead_132 0 rfl rfl ?_
        refine gf_Waves_16 C (zx4 hx 70 rfl) rfl rfl d_Waves_ahead_133 ?_
        refine gf_Waves_333 C (zlv (zxv hx 1 rfl) 0 rfl) rfl rfl d_Waves_ahead_136 ?_
        refine z_aload_n C d_Waves_ahead_139 0 rfl rfl ?_
        refine gf_Waves_10 C (zx4 hx 70 rfl) rfl rfl d_Waves_ahead_140 ?_
        refine gf_Waves_333 C (zlv (zxv hx 0 rfl) 0 rfl) rfl rfl d_Waves_ahead_143 ?_
        refine z_isub C d_Waves_ahead_146 ?_
        cases hf
        exact z_iret C rfl (Nat.le_of_ble_eq_true rfl) (Nat.le_of_ble_eq_true rfl) d_Waves_ahead_147
abbrev rm_Waves_bestAuthor : Room := { frames := 7, cells := 0, slots := 0, locals := 153 }
theorem d_Waves_bestAuthor_0 : decode b_Waves_bestAuthor 0 = .ok (.iload_n 1, 1) := by decide +kernel
theorem d_Waves_bestAuthor_1 : decode b_Waves_bestAuthor 1 = .ok (.iconst 1, 1) := by decide +kernel
theorem d_Waves_bestAuthor_2 : decode b_Waves_bestAuthor 2 = .ok (.sipush 200, 3) := by decide +kernel
theorem d_Waves_bestAuthor_5 : decode b_Waves_bestAuthor 5 = .ok (.invokestatic 56, 3) := by decide +kernel
theorem d_Waves_bestAuthor_8 : decode b_Waves_bestAuthor 8 = .ok (.aload_n 0, 1) := by decide +kernel
theorem d_Waves_bestAuthor_9 : decode b_Waves_bestAuthor 9 = .ok (.getfield 10, 3) := by decide +kernel
theorem d_Waves_bestAuthor_12 : decode b_Waves_bestAuthor 12 = .ok (.getfield 145, 3) := by decide +kernel
theorem d_Waves_bestAuthor_15 : decode b_Waves_bestAuthor 15 = .ok (.invokevirtual 285, 3) := by decide +kernel
theorem d_Waves_bestAuthor_18 : decode b_Waves_bestAuthor 18 = .ok (.ifCond .eq 5, 3) := by decide +kernel
theorem d_Waves_bestAuthor_21 : decode b_Waves_bestAuthor 21 = .ok (.iconst (-1), 1) := by decide +kernel
theorem d_Waves_bestAuthor_22 : decode b_Waves_bestAuthor 22 = .ok (.ireturn, 1) := by decide +kernel
theorem d_Waves_bestAuthor_23 : decode b_Waves_bestAuthor 23 = .ok (.iconst (-1), 1) := by decide +kernel
theorem d_Waves_bestAuthor_24 : decode b_Waves_bestAuthor 24 = .ok (.istore_n 2, 1) := by decide +kernel
theorem d_Waves_bestAuthor_25 : decode b_Waves_bestAuthor 25 = .ok (.iconst 0, 1) := by decide +kernel
theorem d_Waves_bestAuthor_26 : decode b_Waves_bestAuthor 26 = .ok (.istore_n 3, 1) := by decide +kernel
theorem d_Waves_bestAuthor_27 : decode b_Waves_bestAuthor 27 = .ok (.iconst 0, 1) := by decide +kernel
theorem d_Waves_bestAuthor_28 : decode b_Waves_bestAuthor 28 = .ok (.istore 4, 2) := by decide +kernel
theorem d_Waves_bestAuthor_30 : decode b_Waves_bestAuthor 30 = .ok (.iload 4, 2) := by decide +kernel
theorem d_Waves_bestAuthor_32 : decode b_Waves_bestAuthor 32 = .ok (.aload_n 0, 1) := by decide +kernel
theorem d_Waves_bestAuthor_33 : decode b_Waves_bestAuthor 33 = .ok (.getfield 10, 3) := by decide +kernel
theorem d_Waves_bestAuthor_36 : decode b_Waves_bestAuthor 36 = .ok (.getfield 68, 3) := by decide +kernel
theorem d_Waves_bestAuthor_39 : decode b_Waves_bestAuthor 39 = .ok (.getfield 72, 3) := by decide +kernel
theorem d_Waves_bestAuthor_42 : decode b_Waves_bestAuthor 42 = .ok (.if_icmp .ge 72, 3) := by decide +kernel
theorem d_Waves_bestAuthor_45 : decode b_Waves_bestAuthor 45 = .ok (.aload_n 0, 1) := by decide +kernel
theorem d_Waves_bestAuthor_46 : decode b_Waves_bestAuthor 46 = .ok (.getfield 16, 3) := by decide +kernel
theorem d_Waves_bestAuthor_49 : decode b_Waves_bestAuthor 49 = .ok (.aload_n 0, 1) := by decide +kernel
theorem d_Waves_bestAuthor_50 : decode b_Waves_bestAuthor 50 = .ok (.getfield 10, 3) := by decide +kernel
theorem d_Waves_bestAuthor_53 : decode b_Waves_bestAuthor 53 = .ok (.invokevirtual 64, 3) := by decide +kernel
theorem d_Waves_bestAuthor_56 : decode b_Waves_bestAuthor 56 = .ok (.aload_n 0, 1) := by decide +kernel
theorem d_Waves_bestAuthor_57 : decode b_Waves_bestAuthor 57 = .ok (.getfield 16, 3) := by decide +kernel
theorem d_Waves_bestAuthor_60 : decode b_Waves_bestAuthor 60 = .ok (.iload 4, 2) := by decide +kernel
theorem d_Waves_bestAuthor_62 : decode b_Waves_bestAuthor 62 = .ok (.iconst 0, 1) := by decide +kernel
theorem d_Waves_bestAuthor_63 : decode b_Waves_bestAuthor 63 = .ok (.invokevirtual 286, 3) := by decide +kernel
theorem d_Waves_bestAuthor_66 : decode b_Waves_bestAuthor 66 = .ok (.istore 5, 2) := by decide +kernel
theorem d_Waves_bestAuthor_68 : decode b_Waves_bestAuthor 68 = .ok (.aload_n 0, 1) := by decide +kernel
theorem d_Waves_bestAuthor_69 : decode b_Waves_bestAuthor 69 = .ok (.getfield 16, 3) := by decide +kernel
theorem d_Waves_bestAuthor_72 : decode b_Waves_bestAuthor 72 = .ok (.iload_n 1, 1) := by decide +kernel
theorem d_Waves_bestAuthor_73 : decode b_Waves_bestAuthor 73 = .ok (.invokevirtual 304, 3) := by decide +kernel
theorem d_Waves_bestAuthor_76 : decode b_Waves_bestAuthor 76 = .ok (.aload_n 0, 1) := by decide +kernel
theorem d_Waves_bestAuthor_77 : decode b_Waves_bestAuthor 77 = .ok (.getfield 16, 3) := by decide +kernel
theorem d_Waves_bestAuthor_80 : decode b_Waves_bestAuthor 80 = .ok (.getfield 145, 3) := by decide +kernel
theorem d_Waves_bestAuthor_83 : decode b_Waves_bestAuthor 83 = .ok (.getfield 259, 3) := by decide +kernel
theorem d_Waves_bestAuthor_86 : decode b_Waves_bestAuthor 86 = .ok (.iload 5, 2) := by decide +kernel
theorem d_Waves_bestAuthor_88 : decode b_Waves_bestAuthor 88 = .ok (.invokevirtual 123, 3) := by decide +kernel
theorem d_Waves_bestAuthor_91 : decode b_Waves_bestAuthor 91 = .ok (.invokestatic 299, 3) := by decide +kernel
theorem d_Waves_bestAuthor_94 : decode b_Waves_bestAuthor 94 = .ok (.istore 6, 2) := by decide +kernel
theorem d_Waves_bestAuthor_96 : decode b_Waves_bestAuthor 96 = .ok (.iload 6, 2) := by decide +kernel
theorem d_Waves_bestAuthor_98 : decode b_Waves_bestAuthor 98 = .ok (.iload_n 3, 1) := by decide +kernel
theorem d_Waves_bestAuthor_99 : decode b_Waves_bestAuthor 99 = .ok (.if_icmp .le 9, 3) := by decide +kernel
theorem d_Waves_bestAuthor_102 : decode b_Waves_bestAuthor 102 = .ok (.iload 6, 2) := by decide +kernel
theorem d_Waves_bestAuthor_104 : decode b_Waves_bestAuthor 104 = .ok (.istore_n 3, 1) := by decide +kernel
theorem d_Waves_bestAuthor_105 : decode b_Waves_bestAuthor 105 = .ok (.iload 4, 2) := by decide +kernel
theorem d_Waves_bestAuthor_107 : decode b_Waves_bestAuthor 107 = .ok (.istore_n 2, 1) := by decide +kernel
theorem d_Waves_bestAuthor_108 : decode b_Waves_bestAuthor 108 = .ok (.iinc 4 1, 3) := by decide +kernel
theorem d_Waves_bestAuthor_111 : decode b_Waves_bestAuthor 111 = .ok (.goto (-81), 3) := by decide +kernel
theorem d_Waves_bestAuthor_114 : decode b_Waves_bestAuthor 114 = .ok (.iload_n 2, 1) := by decide +kernel
theorem d_Waves_bestAuthor_115 : decode b_Waves_bestAuthor 115 = .ok (.ireturn, 1) := by decide +kernel
def L_Waves_bestAuthor : Nat → Nat → Int32 → Int32 → Int32 → Int32 → zSt → Option (Int32 × zSt)
  | 0, _, _, _, _, _, _ => none
  | n + 1, 0, x1, x2, x3, x4, σ => if (σ.1 0 3 0) ≤ x4 then some (x2, σ) else ((F_Village_copyFrom 1 0 σ).bind fun σ6 => bd2 (F_Village_addNews 1 x4 (0 : Int32) σ6) fun r8 σ9 => (F_Village_pass 1 x1 σ9).bind fun σ11 => (F_Row_get 1 37 r8 σ11).bind fun r13 => (F_Integer_bitCount r13).bind fun r15 => if r15 ≤ x3 then L_Waves_bestAuthor n 0 x1 x2 x3 (x4 + (1 : Int32)) σ11 else L_Waves_bestAuthor n 0 x1 x4 r15 (x4 + (1 : Int32)) σ11)
  | _ + 1, _, _, _, _, _, _ => none
theorem e_Waves_bestAuthor_0 (n : Nat) (x1 : Int32) (x2 : Int32) (x3 : Int32) (x4 : Int32) (σ : zSt) : L_Waves_bestAuthor (n + 1) 0 x1 x2 x3 x4 σ = (if (σ.1 0 3 0) ≤ x4 then some (x2, σ) else ((F_Village_copyFrom 1 0 σ).bind fun σ6 => bd2 (F_Village_addNews 1 x4 (0 : Int32) σ6) fun r8 σ9 => (F_Village_pass 1 x1 σ9).bind fun σ11 => (F_Row_get 1 37 r8 σ11).bind fun r13 => (F_Integer_bitCount r13).bind fun r15 => if r15 ≤ x3 then L_Waves_bestAuthor n 0 x1 x2 x3 (x4 + (1 : Int32)) σ11 else L_Waves_bestAuthor n 0 x1 x4 r15 (x4 + (1 : Int32)) σ11)) := rfl
set_option maxHeartbeats 4000000 in
set_option maxRecDepth 100000 in
theorem w_Waves_bestAuthor {l : Launch} {G : zLA} {p : Program} {e : Env} {s : State} {m : MethodId} {args : Array Value} {below : List Frame} {meth : Method} {c : Code} (C : zCx G p s m args meth c "VillageWaves" b_Waves_bestAuthor 7 (some .int)) (hx : zxl G) {r : Int32} {σ' : zSt} : ∀ n : Nat, (∀ (x1 : Int32) (x2 : Int32) (x3 : Int32) (x4 : Int32) (σ : zSt), L_Waves_bestAuthor n 0 x1 x2 x3 x4 σ = some (r, σ') → zWV G p l e rm_Waves_bestAuthor s m args below meth c 7 0 0 (zQ G below args s rm_Waves_bestAuthor (some (.int r)) σ') 30 [(0, .ref (zad G 4 70)), (1, .int x1), (2, .int x2), (3, .int x3), (4, .int x4)] [] σ) := by
  intro n
  induction n with
  | zero => exact fun _ _ _ _ _ hf => (by cases hf)
  | succ n ih =>
    refine ?_
    · intro x1 x2 x3 x4 σ hf
      rw [e_Waves_bestAuthor_0] at hf
      refine z_iload C d_Waves_bestAuthor_30 4 rfl ?_
      refine z_aload_n C d_Waves_bestAuthor_32 0 rfl rfl ?_
      refine gf_Waves_10 C (zx4 hx 70 rfl) rfl rfl d_Waves_bestAuthor_33 ?_
      refine gf_Waves_68 C (zlv (zxv hx 0 rfl) 0 rfl) rfl rfl d_Waves_bestAuthor_36 ?_
      refine gf_Waves_72 C (zlv (zxv hx 0 rfl) 3 rfl) rfl rfl d_Waves_bestAuthor_39 ?_
      refine z_icmp_ge (tgt := 114) C d_Waves_bestAuthor_42 rfl (fun h17 => ?_) (fun h17 => ?_)
      · have hf := iff_t hf h17
        refine z_iload_n C d_Waves_bestAuthor_114 2 rfl rfl ?_
        cases hf
        exact z_iret C rfl (Nat.le_of_ble_eq_true rfl) (Nat.le_of_ble_eq_true rfl) d_Waves_bestAuthor_115
      · have hf := iff_f hf h17
        refine z_aload_n C d_Waves_bestAuthor_45 0 rfl rfl ?_
        refine gf_Waves_16 C (zx4 hx 70 rfl) rfl rfl d_Waves_bestAuthor_46 ?_
        refine z_aload_n C d_Waves_bestAuthor_49 0 rfl rfl ?_
        refine gf_Waves_10 C (zx4 hx 70 rfl) rfl rfl d_Waves_bestAuthor_50 ?_
        obtain ⟨σ6, h5, hf⟩ := bd_s hf
        refine z_cVv C kl_Waves_64 rfl (c_Village_copyFrom (zxv hx 1 rfl) (zxv hx 0 rfl) h5) (zlv (zxv hx 1 rfl) 0 rfl) rfl rfl rfl (Nat.le_of_ble_eq_true rfl) ⟨(Nat.le_of_ble_eq_true rfl), (Nat.le_of_ble_eq_true rfl)⟩ ⟨(Nat.le_of_ble_eq_true rfl), (Nat.le_of_ble_eq_true rfl)⟩ d_Waves_bestAuthor_53 ?_
        refine z_aload_n C d_Waves_bestAuthor_56 0 rfl rfl ?_
        refine gf_Waves_16 C (zx4 hx 70 rfl) rfl rfl d_Waves_bestAuthor_57 ?_
        refine z_iload C d_Waves_bestAuthor_60 4 rfl ?_
        refine z_iconst C d_Waves_bestAuthor_62 zki_0 ?_
        obtain ⟨r8, σ9, h7, hf⟩ := bd2_s hf
        refine z_cVi C kl_Waves_286 rfl (c_Village_addNews (zxv hx 1 rfl) h7) (zlv (zxv hx 1 rfl) 0 rfl) rfl rfl rfl (Nat.le_of_ble_eq_true rfl) ⟨(Nat.le_of_ble_eq_true rfl), (Nat.le_of_ble_eq_true rfl)⟩ ⟨(Nat.le_of_ble_eq_true rfl), (Nat.le_of_ble_eq_true rfl)⟩ d_Waves_bestAuthor_63 ?_
        refine z_istore C d_Waves_bestAuthor_66 (by decide) ?_
        refine z_aload_n C d_Waves_bestAuthor_68 1 rfl rfl ?_
        refine gf_Waves_16 C (zx4 hx 70 rfl) rfl rfl d_Waves_bestAuthor_69 ?_
        refine z_iload_n C d_Waves_bestAuthor_72 2 rfl rfl ?_
        obtain ⟨σ11, h10, hf⟩ := bd_s hf
        refine z_cVv C kl_Waves_304 rfl (c_Village_pass (zxv hx 1 rfl) h10) (zlv (zxv hx 1 rfl) 0 rfl) rfl rfl rfl (Nat.le_of_ble_eq_true rfl) ⟨(Nat.le_of_ble_eq_true rfl), (Nat.le_of_ble_eq_true rfl)⟩ ⟨(Nat.le_of_ble_eq_true rfl), (Nat.le_of_ble_eq_true rfl)⟩ d_Waves_bestAuthor_73 ?_
        refine z_aload_n C d_Waves_bestAuthor_76 1 rfl rfl ?_
        refine gf_Waves_16 C (zx4 hx 70 rfl) rfl rfl d_Waves_bestAuthor_77 ?_
        refine gf_Waves_145 C (zlv (zxv hx 1 rfl) 0 rfl) rfl rfl d_Waves_bestAuthor_80 ?_
        refine gf_Waves_259 C (zlv (zxv hx 1 rfl) 24 rfl) rfl rfl d_Waves_bestAuthor_83 ?_
        refine z_iload C d_Waves_bestAuthor_86 0 rfl ?_
        obtain ⟨r13, h12, hf⟩ := bd_s hf
        refine z_cVi C kl_Waves_123 rfl (c_Row_get (zrow_v (zxv hx 1 rfl) 37 rfl) h12) (zlv (zxv hx 1 rfl) 37 rfl) rfl rfl rfl (Nat.le_of_ble_eq_true rfl) ⟨(Nat.le_of_ble_eq_true rfl), (Nat.le_of_ble_eq_true rfl)⟩ ⟨(Nat.le_of_ble_eq_true rfl), (Nat.le_of_ble_eq_true rfl)⟩ d_Waves_bestAuthor_88 ?_
        obtain ⟨r15, h14, hf⟩ := bd_s hf
        refine z_cSi C kl_Waves_299 (c_Integer_bitCount h14) rfl rfl (Nat.le_of_ble_eq_true rfl) ⟨(Nat.le_of_ble_eq_true rfl), (Nat.le_of_ble_eq_true rfl)⟩ ⟨(Nat.le_of_ble_eq_true rfl), (Nat.le_of_ble_eq_true rfl)⟩ d_Waves_bestAuthor_91 ?_
        refine z_istore C d_Waves_bestAuthor_94 (by decide) ?_
        refine z_iload C d_Waves_bestAuthor_96 0 rfl ?_
        refine z_iload_n C d_Waves_bestAuthor_98 5 rfl rfl ?_
        refine z_icmp_le (tgt := 108) C d_Waves_bestAuthor_99 rfl (fun h16 => ?_) (fun h16 => ?_)
        · have hf := iff_t hf h16
          refine z_iinc C d_Waves_bestAuthor_108 6 rfl zki_1 (by decide) ?_
          refine z_goto (tgt := 30) C d_Waves_bestAuthor_111 rfl ?_
          exact z_sub [3, 4, 5, 6, 0] rfl (ih _ _ _ _ _ hf)
        · have hf := iff_f hf h16
          refine z_iload C d_Waves_bestAuthor_102 0 rfl ?_
          refine z_istore_n C d_Waves_bestAuthor_104 rfl (by decide) ?_
          refine z_iload C d_Waves_bestAuthor_105 6 rfl ?_
          refine z_istore_n C d_Waves_bestAuthor_107 rfl (by decide) ?_
          refine z_iinc C d_Waves_bestAuthor_108 6 rfl zki_1 (by decide) ?_
          refine z_goto (tgt := 30) C d_Waves_bestAuthor_111 rfl ?_
          exact z_sub [5, 6, 1, 2, 0] rfl (ih _ _ _ _ _ hf)
def F_Waves_bestAuthor (a0 : Int32) (σ : zSt) : Option (Int32 × zSt) :=
  (F_Waves_checkWithin a0 (1 : Int32) (200 : Int32) σ).bind fun _ => (F_Tidings_isFull 0 σ).bind fun r3 => if r3 = 0 then L_Waves_bestAuthor zK 0 a0 (-1 : Int32) (0 : Int32) (0 : Int32) σ else some ((-1 : Int32), σ)
set_option maxHeartbeats 4000000 in
set_option maxRecDepth 100000 in
theorem c_Waves_bestAuthor {l : Launch} {G : zLA} (hx : zxl G) {a0 : Int32} {σ : zSt} {r : Int32} {σ' : zSt} (hf : F_Waves_bestAuthor a0 σ = some (r, σ')) : zM l G y_Waves_bestAuthor (zws y_Waves_bestAuthor b_Waves_bestAuthor 7 (some .int)) rm_Waves_bestAuthor [.ref (zad G 4 70), .int a0] σ (some (.int r)) σ' := by
  refine z_ofM (own := "VillageWaves") (lv := [(0, .ref (zad G 4 70)), (1, .int a0)]) (by decide +kernel) rfl rfl (Nat.le_of_ble_eq_true rfl) (fun p e s m args below meth c C => ?_)
  rw [F_Waves_bestAuthor] at hf
  refine z_iload_n C d_Waves_bestAuthor_0 1 rfl rfl ?_
  refine z_iconst C d_Waves_bestAuthor_1 zki_1 ?_
  refine z_sipush C d_Waves_bestAuthor_2 zks_200 ?_
  obtain ⟨_, h1, hf⟩ := bd_s hf
  refine z_cSv C kl_Waves_56 (c_Waves_checkWithin h1) rfl rfl (Nat.le_of_ble_eq_true rfl) ⟨(Nat.le_of_ble_eq_true rfl), (Nat.le_of_ble_eq_true rfl)⟩ ⟨(Nat.le_of_ble_eq_true rfl), (Nat.le_of_ble_eq_true rfl)⟩ d_Waves_bestAuthor_5 ?_
  refine z_aload_n C d_Waves_bestAuthor_8 0 rfl rfl ?_
  refine gf_Waves_10 C (zx4 hx 70 rfl) rfl rfl d_Waves_bestAuthor_9 ?_
  refine gf_Waves_145 C (zlv (zxv hx 0 rfl) 0 rfl) rfl rfl d_Waves_bestAuthor_12 ?_
  obtain ⟨r3, h2, hf⟩ := bd_s hf
  refine z_cVi C kl_Waves_285 rfl (c_Tidings_isFull (zxv hx 0 rfl) h2) (zlv (zxv hx 0 rfl) 24 rfl) rfl rfl rfl (Nat.le_of_ble_eq_true rfl) ⟨(Nat.le_of_ble_eq_true rfl), (Nat.le_of_ble_eq_true rfl)⟩ ⟨(Nat.le_of_ble_eq_true rfl), (Nat.le_of_ble_eq_true rfl)⟩ d_Waves_bestAuthor_15 ?_
  refine z_if_eq (tgt := 23) C d_Waves_bestAuthor_18 rfl (fun h4 => ?_) (fun h4 => ?_)
  · have hf := iff_t hf h4
    refine z_iconst C d_Waves_bestAuthor_23 zki_m1 ?_
    refine z_istore_n C d_Waves_bestAuthor_24 rfl (by decide) ?_
    refine z_iconst C d_Waves_bestAuthor_25 zki_0 ?_
    refine z_istore_n C d_Waves_bestAuthor_26 rfl (by decide) ?_
    refine z_iconst C d_Waves_bestAuthor_27 zki_0 ?_
    refine z_istore C d_Waves_bestAuthor_28 (by decide) ?_
    exact z_sub [3, 4, 2, 1, 0] rfl ((w_Waves_bestAuthor C hx zK) _ _ _ _ _ hf)
  · have hf := iff_f hf h4
    refine z_iconst C d_Waves_bestAuthor_21 zki_m1 ?_
    cases hf
    exact z_iret C rfl (Nat.le_of_ble_eq_true rfl) (Nat.le_of_ble_eq_true rfl) d_Waves_bestAuthor_22
abbrev rm_Waves_savedIn : Room := { frames := 0, cells := 0, slots := 0, locals := 0 }
theorem d_Waves_savedIn_0 : decode b_Waves_savedIn 0 = .ok (.iload_n 1, 1) := by decide +kernel
theorem d_Waves_savedIn_1 : decode b_Waves_savedIn 1 = .ok (.ifCond .ne 10, 3) := by decide +kernel
theorem d_Waves_savedIn_4 : decode b_Waves_savedIn 4 = .ok (.aload_n 0, 1) := by decide +kernel
theorem d_Waves_savedIn_5 : decode b_Waves_savedIn 5 = .ok (.getfield 19, 3) := by decide +kernel
theorem d_Waves_savedIn_8 : decode b_Waves_savedIn 8 = .ok (.goto 7, 3) := by decide +kernel
theorem d_Waves_savedIn_11 : decode b_Waves_savedIn 11 = .ok (.aload_n 0, 1) := by decide +kernel
theorem d_Waves_savedIn_12 : decode b_Waves_savedIn 12 = .ok (.getfield 22, 3) := by decide +kernel
theorem d_Waves_savedIn_15 : decode b_Waves_savedIn 15 = .ok (.areturn, 1) := by decide +kernel
def F_Waves_savedIn (a0 : Int32) (σ : zSt) : Option (Nat) :=
  if a0 = 0 then some 2 else some 3
set_option maxHeartbeats 4000000 in
set_option maxRecDepth 100000 in
theorem c_Waves_savedIn {l : Launch} {G : zLA} (hx : zxl G) {a0 : Int32} {σ : zSt} {r : Nat} (hf : F_Waves_savedIn a0 σ = some r) : zM l G y_Waves_savedIn (zws y_Waves_savedIn b_Waves_savedIn 2 (some (.object "VillageWaves$Village"))) rm_Waves_savedIn [.ref (zad G 4 70), .int a0] σ (some (.ref (zad G r 0))) σ := by
  refine z_ofM (own := "VillageWaves") (lv := [(0, .ref (zad G 4 70)), (1, .int a0)]) (by decide +kernel) rfl rfl (Nat.le_of_ble_eq_true rfl) (fun p e s m args below meth c C => ?_)
  rw [F_Waves_savedIn] at hf
  refine z_iload_n C d_Waves_savedIn_0 1 rfl rfl ?_
  refine z_if_ne (tgt := 11) C d_Waves_savedIn_1 rfl (fun h1 => ?_) (fun h1 => ?_)
  · have hf := iff_f hf h1
    refine z_aload_n C d_Waves_savedIn_11 0 rfl rfl ?_
    refine gf_Waves_22 C (zx4 hx 70 rfl) rfl rfl d_Waves_savedIn_12 ?_
    cases hf
    exact z_aret C rfl (Or.inl ⟨_, rfl⟩) (Nat.le_of_ble_eq_true rfl) (Nat.le_of_ble_eq_true rfl) d_Waves_savedIn_15
  · have hf := iff_t hf h1
    refine z_aload_n C d_Waves_savedIn_4 0 rfl rfl ?_
    refine gf_Waves_19 C (zx4 hx 70 rfl) rfl rfl d_Waves_savedIn_5 ?_
    refine z_goto (tgt := 15) C d_Waves_savedIn_8 rfl ?_
    cases hf
    exact z_aret C rfl (Or.inl ⟨_, rfl⟩) (Nat.le_of_ble_eq_true rfl) (Nat.le_of_ble_eq_true rfl) d_Waves_savedIn_15
theorem lt4_Waves_savedIn {a0 : Int32} {σ : zSt} {r : Nat} (hf : F_Waves_savedIn a0 σ = some r) : r < 4 := by
  rw [F_Waves_savedIn] at hf
  split at hf <;> cases hf <;> decide
abbrev rm_Waves_save : Room := { frames := 7, cells := 0, slots := 0, locals := 153 }
theorem d_Waves_save_0 : decode b_Waves_save 0 = .ok (.iload_n 1, 1) := by decide +kernel
theorem d_Waves_save_1 : decode b_Waves_save 1 = .ok (.iconst 0, 1) := by decide +kernel
theorem d_Waves_save_2 : decode b_Waves_save 2 = .ok (.iconst 1, 1) := by decide +kernel
theorem d_Waves_save_3 : decode b_Waves_save 3 = .ok (.invokestatic 56, 3) := by decide +kernel
theorem d_Waves_save_6 : decode b_Waves_save 6 = .ok (.aload_n 0, 1) := by decide +kernel
theorem d_Waves_save_7 : decode b_Waves_save 7 = .ok (.iload_n 1, 1) := by decide +kernel
theorem d_Waves_save_8 : decode b_Waves_save 8 = .ok (.invokevirtual 336, 3) := by decide +kernel
theorem d_Waves_save_11 : decode b_Waves_save 11 = .ok (.aload_n 0, 1) := by decide +kernel
theorem d_Waves_save_12 : decode b_Waves_save 12 = .ok (.getfield 10, 3) := by decide +kernel
theorem d_Waves_save_15 : decode b_Waves_save 15 = .ok (.invokevirtual 64, 3) := by decide +kernel
theorem d_Waves_save_18 : decode b_Waves_save 18 = .ok (.aload_n 0, 1) := by decide +kernel
theorem d_Waves_save_19 : decode b_Waves_save 19 = .ok (.dup, 1) := by decide +kernel
theorem d_Waves_save_20 : decode b_Waves_save 20 = .ok (.getfield 25, 3) := by decide +kernel
theorem d_Waves_save_23 : decode b_Waves_save 23 = .ok (.iload_n 1, 1) := by decide +kernel
theorem d_Waves_save_24 : decode b_Waves_save 24 = .ok (.invokestatic 340, 3) := by decide +kernel
theorem d_Waves_save_27 : decode b_Waves_save 27 = .ok (.ior, 1) := by decide +kernel
theorem d_Waves_save_28 : decode b_Waves_save 28 = .ok (.putfield 25, 3) := by decide +kernel
theorem d_Waves_save_31 : decode b_Waves_save 31 = .ok (.return_, 1) := by decide +kernel
def F_Waves_save (a0 : Int32) (σ : zSt) : Option (zSt) :=
  (F_Waves_checkWithin a0 (0 : Int32) (1 : Int32) σ).bind fun _ => (F_Waves_savedIn a0 σ).bind fun r3 => (F_Village_copyFrom r3 0 σ).bind fun σ5 => (F_Waves_bit a0 σ5).bind fun r7 => some (zst σ5 4 70 4 ((σ5.1 4 70 4) ||| r7))
set_option maxHeartbeats 4000000 in
set_option maxRecDepth 100000 in
theorem c_Waves_save {l : Launch} {G : zLA} (hx : zxl G) {a0 : Int32} {σ : zSt} {σ' : zSt} (hf : F_Waves_save a0 σ = some σ') : zM l G y_Waves_save (zws y_Waves_save b_Waves_save 2 none) rm_Waves_save [.ref (zad G 4 70), .int a0] σ none σ' := by
  refine z_ofM (own := "VillageWaves") (lv := [(0, .ref (zad G 4 70)), (1, .int a0)]) (by decide +kernel) rfl rfl (Nat.le_of_ble_eq_true rfl) (fun p e s m args below meth c C => ?_)
  rw [F_Waves_save] at hf
  refine z_iload_n C d_Waves_save_0 1 rfl rfl ?_
  refine z_iconst C d_Waves_save_1 zki_0 ?_
  refine z_iconst C d_Waves_save_2 zki_1 ?_
  obtain ⟨_, h1, hf⟩ := bd_s hf
  refine z_cSv C kl_Waves_56 (c_Waves_checkWithin h1) rfl rfl (Nat.le_of_ble_eq_true rfl) ⟨(Nat.le_of_ble_eq_true rfl), (Nat.le_of_ble_eq_true rfl)⟩ ⟨(Nat.le_of_ble_eq_true rfl), (Nat.le_of_ble_eq_true rfl)⟩ d_Waves_save_3 ?_
  refine z_aload_n C d_Waves_save_6 0 rfl rfl ?_
  refine z_iload_n C d_Waves_save_7 1 rfl rfl ?_
  obtain ⟨r3, h2, hf⟩ := bd_s hf
  have hr3 : zvl G r3 := hx.2 _ (lt4_Waves_savedIn h2)
  refine z_cVr C kl_Waves_336 rfl (c_Waves_savedIn hx h2) (zx4 hx 70 rfl) rfl rfl rfl (Nat.le_of_ble_eq_true rfl) ⟨(Nat.le_of_ble_eq_true rfl), (Nat.le_of_ble_eq_true rfl)⟩ ⟨(Nat.le_of_ble_eq_true rfl), (Nat.le_of_ble_eq_true rfl)⟩ d_Waves_save_8 ?_
  refine z_aload_n C d_Waves_save_11 0 rfl rfl ?_
  refine gf_Waves_10 C (zx4 hx 70 rfl) rfl rfl d_Waves_save_12 ?_
  obtain ⟨σ5, h4, hf⟩ := bd_s hf
  refine z_cVv C kl_Waves_64 rfl (c_Village_copyFrom hr3 (zxv hx 0 rfl) h4) (zlv hr3 0 rfl) rfl rfl rfl (Nat.le_of_ble_eq_true rfl) ⟨(Nat.le_of_ble_eq_true rfl), (Nat.le_of_ble_eq_true rfl)⟩ ⟨(Nat.le_of_ble_eq_true rfl), (Nat.le_of_ble_eq_true rfl)⟩ d_Waves_save_15 ?_
  refine z_aload_n C d_Waves_save_18 0 rfl rfl ?_
  refine z_dup C d_Waves_save_19 rfl ?_
  refine gf_Waves_25 C (zx4 hx 70 rfl) rfl rfl d_Waves_save_20 ?_
  refine z_iload_n C d_Waves_save_23 1 rfl rfl ?_
  obtain ⟨r7, h6, hf⟩ := bd_s hf
  refine z_cSi C kl_Waves_340 (c_Waves_bit h6) rfl rfl (Nat.le_of_ble_eq_true rfl) ⟨(Nat.le_of_ble_eq_true rfl), (Nat.le_of_ble_eq_true rfl)⟩ ⟨(Nat.le_of_ble_eq_true rfl), (Nat.le_of_ble_eq_true rfl)⟩ d_Waves_save_24 ?_
  refine z_ior C d_Waves_save_27 ?_
  refine pf_Waves_25 C (zx4 hx 70 rfl) rfl (Nat.le_of_ble_eq_true rfl) rfl d_Waves_save_28 ?_
  cases hf
  exact z_vret C rfl (Nat.le_of_ble_eq_true rfl) (Nat.le_of_ble_eq_true rfl) d_Waves_save_31
abbrev rm_Waves_restore : Room := { frames := 7, cells := 0, slots := 0, locals := 153 }
theorem d_Waves_restore_0 : decode b_Waves_restore 0 = .ok (.iload_n 1, 1) := by decide +kernel
theorem d_Waves_restore_1 : decode b_Waves_restore 1 = .ok (.iconst 0, 1) := by decide +kernel
theorem d_Waves_restore_2 : decode b_Waves_restore 2 = .ok (.iconst 1, 1) := by decide +kernel
theorem d_Waves_restore_3 : decode b_Waves_restore 3 = .ok (.invokestatic 56, 3) := by decide +kernel
theorem d_Waves_restore_6 : decode b_Waves_restore 6 = .ok (.aload_n 0, 1) := by decide +kernel
theorem d_Waves_restore_7 : decode b_Waves_restore 7 = .ok (.getfield 25, 3) := by decide +kernel
theorem d_Waves_restore_10 : decode b_Waves_restore 10 = .ok (.iload_n 1, 1) := by decide +kernel
theorem d_Waves_restore_11 : decode b_Waves_restore 11 = .ok (.invokestatic 289, 3) := by decide +kernel
theorem d_Waves_restore_14 : decode b_Waves_restore 14 = .ok (.ifCond .ne 14, 3) := by decide +kernel
theorem d_Waves_restore_17 : decode b_Waves_restore 17 = .ok (.new 45, 3) := by decide +kernel
theorem d_Waves_restore_20 : decode b_Waves_restore 20 = .ok (.dup, 1) := by decide +kernel
theorem d_Waves_restore_21 : decode b_Waves_restore 21 = .ok (.ldc_w 343, 3) := by decide +kernel
theorem d_Waves_restore_24 : decode b_Waves_restore 24 = .ok (.invokespecial 49, 3) := by decide +kernel
theorem d_Waves_restore_27 : decode b_Waves_restore 27 = .ok (.athrow, 1) := by decide +kernel
theorem d_Waves_restore_28 : decode b_Waves_restore 28 = .ok (.aload_n 0, 1) := by decide +kernel
theorem d_Waves_restore_29 : decode b_Waves_restore 29 = .ok (.getfield 10, 3) := by decide +kernel
theorem d_Waves_restore_32 : decode b_Waves_restore 32 = .ok (.aload_n 0, 1) := by decide +kernel
theorem d_Waves_restore_33 : decode b_Waves_restore 33 = .ok (.iload_n 1, 1) := by decide +kernel
theorem d_Waves_restore_34 : decode b_Waves_restore 34 = .ok (.invokevirtual 336, 3) := by decide +kernel
theorem d_Waves_restore_37 : decode b_Waves_restore 37 = .ok (.invokevirtual 64, 3) := by decide +kernel
theorem d_Waves_restore_40 : decode b_Waves_restore 40 = .ok (.return_, 1) := by decide +kernel
def F_Waves_restore (a0 : Int32) (σ : zSt) : Option (zSt) :=
  (F_Waves_checkWithin a0 (0 : Int32) (1 : Int32) σ).bind fun _ => (F_Waves_contains (σ.1 4 70 4) a0 σ).bind fun r3 => if r3 = 0 then none else ((F_Waves_savedIn a0 σ).bind fun r5 => (F_Village_copyFrom 0 r5 σ).bind fun σ7 => some σ7)
set_option maxHeartbeats 4000000 in
set_option maxRecDepth 100000 in
theorem c_Waves_restore {l : Launch} {G : zLA} (hx : zxl G) {a0 : Int32} {σ : zSt} {σ' : zSt} (hf : F_Waves_restore a0 σ = some σ') : zM l G y_Waves_restore (zws y_Waves_restore b_Waves_restore 2 none) rm_Waves_restore [.ref (zad G 4 70), .int a0] σ none σ' := by
  refine z_ofM (own := "VillageWaves") (lv := [(0, .ref (zad G 4 70)), (1, .int a0)]) (by decide +kernel) rfl rfl (Nat.le_of_ble_eq_true rfl) (fun p e s m args below meth c C => ?_)
  rw [F_Waves_restore] at hf
  refine z_iload_n C d_Waves_restore_0 1 rfl rfl ?_
  refine z_iconst C d_Waves_restore_1 zki_0 ?_
  refine z_iconst C d_Waves_restore_2 zki_1 ?_
  obtain ⟨_, h1, hf⟩ := bd_s hf
  refine z_cSv C kl_Waves_56 (c_Waves_checkWithin h1) rfl rfl (Nat.le_of_ble_eq_true rfl) ⟨(Nat.le_of_ble_eq_true rfl), (Nat.le_of_ble_eq_true rfl)⟩ ⟨(Nat.le_of_ble_eq_true rfl), (Nat.le_of_ble_eq_true rfl)⟩ d_Waves_restore_3 ?_
  refine z_aload_n C d_Waves_restore_6 0 rfl rfl ?_
  refine gf_Waves_25 C (zx4 hx 70 rfl) rfl rfl d_Waves_restore_7 ?_
  refine z_iload_n C d_Waves_restore_10 1 rfl rfl ?_
  obtain ⟨r3, h2, hf⟩ := bd_s hf
  refine z_cSi C kl_Waves_289 (c_Waves_contains h2) rfl rfl (Nat.le_of_ble_eq_true rfl) ⟨(Nat.le_of_ble_eq_true rfl), (Nat.le_of_ble_eq_true rfl)⟩ ⟨(Nat.le_of_ble_eq_true rfl), (Nat.le_of_ble_eq_true rfl)⟩ d_Waves_restore_11 ?_
  refine z_if_ne (tgt := 28) C d_Waves_restore_14 rfl (fun h8 => ?_) (fun h8 => ?_)
  · have hf := iff_f hf h8
    refine z_aload_n C d_Waves_restore_28 0 rfl rfl ?_
    refine gf_Waves_10 C (zx4 hx 70 rfl) rfl rfl d_Waves_restore_29 ?_
    refine z_aload_n C d_Waves_restore_32 0 rfl rfl ?_
    refine z_iload_n C d_Waves_restore_33 1 rfl rfl ?_
    obtain ⟨r5, h4, hf⟩ := bd_s hf
    have hr5 : zvl G r5 := hx.2 _ (lt4_Waves_savedIn h4)
    refine z_cVr C kl_Waves_336 rfl (c_Waves_savedIn hx h4) (zx4 hx 70 rfl) rfl rfl rfl (Nat.le_of_ble_eq_true rfl) ⟨(Nat.le_of_ble_eq_true rfl), (Nat.le_of_ble_eq_true rfl)⟩ ⟨(Nat.le_of_ble_eq_true rfl), (Nat.le_of_ble_eq_true rfl)⟩ d_Waves_restore_34 ?_
    obtain ⟨σ7, h6, hf⟩ := bd_s hf
    refine z_cVv C kl_Waves_64 rfl (c_Village_copyFrom (zxv hx 0 rfl) hr5 h6) (zlv (zxv hx 0 rfl) 0 rfl) rfl rfl rfl (Nat.le_of_ble_eq_true rfl) ⟨(Nat.le_of_ble_eq_true rfl), (Nat.le_of_ble_eq_true rfl)⟩ ⟨(Nat.le_of_ble_eq_true rfl), (Nat.le_of_ble_eq_true rfl)⟩ d_Waves_restore_37 ?_
    cases hf
    exact z_vret C rfl (Nat.le_of_ble_eq_true rfl) (Nat.le_of_ble_eq_true rfl) d_Waves_restore_40
  · have hf := iff_t hf h8
    cases hf
