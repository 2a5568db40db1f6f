abbrev rm_Law_draw : Room := { frames := 1, cells := 0, slots := 0, locals := 24 }
theorem d_Law_draw_0 : decode b_Law_draw 0 = .ok (.aload_n 0, 1) := by decide +kernel
theorem d_Law_draw_1 : decode b_Law_draw 1 = .ok (.getfield 18, 3) := by decide +kernel
theorem d_Law_draw_4 : decode b_Law_draw 4 = .ok (.aload_n 0, 1) := by decide +kernel
theorem d_Law_draw_5 : decode b_Law_draw 5 = .ok (.getfield 22, 3) := by decide +kernel
theorem d_Law_draw_8 : decode b_Law_draw 8 = .ok (.iconst 1, 1) := by decide +kernel
theorem d_Law_draw_9 : decode b_Law_draw 9 = .ok (.aload_n 0, 1) := by decide +kernel
theorem d_Law_draw_10 : decode b_Law_draw 10 = .ok (.getfield 18, 3) := by decide +kernel
theorem d_Law_draw_13 : decode b_Law_draw 13 = .ok (.arraylength, 1) := by decide +kernel
theorem d_Law_draw_14 : decode b_Law_draw 14 = .ok (.invokestatic 26, 3) := by decide +kernel
theorem d_Law_draw_17 : decode b_Law_draw 17 = .ok (.irem, 1) := by decide +kernel
theorem d_Law_draw_18 : decode b_Law_draw 18 = .ok (.invokestatic 32, 3) := by decide +kernel
theorem d_Law_draw_21 : decode b_Law_draw 21 = .ok (.aload_n 0, 1) := by decide +kernel
theorem d_Law_draw_22 : decode b_Law_draw 22 = .ok (.getfield 22, 3) := by decide +kernel
theorem d_Law_draw_25 : decode b_Law_draw 25 = .ok (.ldc 36, 2) := by decide +kernel
theorem d_Law_draw_27 : decode b_Law_draw 27 = .ok (.imul, 1) := by decide +kernel
theorem d_Law_draw_28 : decode b_Law_draw 28 = .ok (.iadd, 1) := by decide +kernel
theorem d_Law_draw_29 : decode b_Law_draw 29 = .ok (.istore_n 2, 1) := by decide +kernel
theorem d_Law_draw_30 : decode b_Law_draw 30 = .ok (.aload_n 0, 1) := by decide +kernel
theorem d_Law_draw_31 : decode b_Law_draw 31 = .ok (.dup, 1) := by decide +kernel
theorem d_Law_draw_32 : decode b_Law_draw 32 = .ok (.getfield 22, 3) := by decide +kernel
theorem d_Law_draw_35 : decode b_Law_draw 35 = .ok (.iconst 1, 1) := by decide +kernel
theorem d_Law_draw_36 : decode b_Law_draw 36 = .ok (.iadd, 1) := by decide +kernel
theorem d_Law_draw_37 : decode b_Law_draw 37 = .ok (.putfield 22, 3) := by decide +kernel
theorem d_Law_draw_40 : decode b_Law_draw 40 = .ok (.iload_n 2, 1) := by decide +kernel
theorem d_Law_draw_41 : decode b_Law_draw 41 = .ok (.iload_n 2, 1) := by decide +kernel
theorem d_Law_draw_42 : decode b_Law_draw 42 = .ok (.bipush 15, 2) := by decide +kernel
theorem d_Law_draw_44 : decode b_Law_draw 44 = .ok (.iushr, 1) := by decide +kernel
theorem d_Law_draw_45 : decode b_Law_draw 45 = .ok (.ixor, 1) := by decide +kernel
theorem d_Law_draw_46 : decode b_Law_draw 46 = .ok (.istore_n 2, 1) := by decide +kernel
theorem d_Law_draw_47 : decode b_Law_draw 47 = .ok (.iload_n 2, 1) := by decide +kernel
theorem d_Law_draw_48 : decode b_Law_draw 48 = .ok (.ldc 37, 2) := by decide +kernel
theorem d_Law_draw_50 : decode b_Law_draw 50 = .ok (.imul, 1) := by decide +kernel
theorem d_Law_draw_51 : decode b_Law_draw 51 = .ok (.istore_n 2, 1) := by decide +kernel
theorem d_Law_draw_52 : decode b_Law_draw 52 = .ok (.iload_n 2, 1) := by decide +kernel
theorem d_Law_draw_53 : decode b_Law_draw 53 = .ok (.iload_n 2, 1) := by decide +kernel
theorem d_Law_draw_54 : decode b_Law_draw 54 = .ok (.bipush 13, 2) := by decide +kernel
theorem d_Law_draw_56 : decode b_Law_draw 56 = .ok (.iushr, 1) := by decide +kernel
theorem d_Law_draw_57 : decode b_Law_draw 57 = .ok (.ixor, 1) := by decide +kernel
theorem d_Law_draw_58 : decode b_Law_draw 58 = .ok (.istore_n 2, 1) := by decide +kernel
theorem d_Law_draw_59 : decode b_Law_draw 59 = .ok (.iload_n 2, 1) := by decide +kernel
theorem d_Law_draw_60 : decode b_Law_draw 60 = .ok (.ldc 38, 2) := by decide +kernel
theorem d_Law_draw_62 : decode b_Law_draw 62 = .ok (.iand, 1) := by decide +kernel
theorem d_Law_draw_63 : decode b_Law_draw 63 = .ok (.iload_n 1, 1) := by decide +kernel
theorem d_Law_draw_64 : decode b_Law_draw 64 = .ok (.irem, 1) := by decide +kernel
theorem d_Law_draw_65 : decode b_Law_draw 65 = .ok (.ireturn, 1) := by decide +kernel
def F_Law_draw (G : zLA) (a0 : Int32) (σ : zSt) : Option (Int32 × zSt) :=
  if ¬ σ.1 4 80 1 = 0 then (if ¬ σ.1 4 80 1 = 0 then (if ¬ (if (1 : Int32) < (Int32.ofNat (zLn G)) then (Int32.ofNat (zLn G)) else (1 : Int32)) = (0 : Int32) then (F_Law_at G ((σ.1 4 80 2) - (σ.1 4 80 2) / (if (1 : Int32) < (Int32.ofNat (zLn G)) then (Int32.ofNat (zLn G)) else (1 : Int32)) * (if (1 : Int32) < (Int32.ofNat (zLn G)) then (Int32.ofNat (zLn G)) else (1 : Int32))) σ).bind fun r2 => if ¬ a0 = (0 : Int32) then some (((((((r2 + ((σ.1 4 80 2) * (668265263 : Int32))) ^^^ ((r2 + ((σ.1 4 80 2) * (668265263 : Int32))).toUInt32 >>> ((15 : Int32).toUInt32 &&& Int32.toUInt32 31)).toInt32) * (739982445 : Int32)) ^^^ ((((r2 + ((σ.1 4 80 2) * (668265263 : Int32))) ^^^ ((r2 + ((σ.1 4 80 2) * (668265263 : Int32))).toUInt32 >>> ((15 : Int32).toUInt32 &&& Int32.toUInt32 31)).toInt32) * (739982445 : Int32)).toUInt32 >>> ((13 : Int32).toUInt32 &&& Int32.toUInt32 31)).toInt32) &&& (2147483647 : Int32)) - (((((r2 + ((σ.1 4 80 2) * (668265263 : Int32))) ^^^ ((r2 + ((σ.1 4 80 2) * (668265263 : Int32))).toUInt32 >>> ((15 : Int32).toUInt32 &&& Int32.toUInt32 31)).toInt32) * (739982445 : Int32)) ^^^ ((((r2 + ((σ.1 4 80 2) * (668265263 : Int32))) ^^^ ((r2 + ((σ.1 4 80 2) * (668265263 : Int32))).toUInt32 >>> ((15 : Int32).toUInt32 &&& Int32.toUInt32 31)).toInt32) * (739982445 : Int32)).toUInt32 >>> ((13 : Int32).toUInt32 &&& Int32.toUInt32 31)).toInt32) &&& (2147483647 : Int32)) / a0 * a0), (zst σ 4 80 2 ((σ.1 4 80 2) + (1 : Int32)))) else none else none) else none) else none
set_option maxHeartbeats 4000000 in
set_option maxRecDepth 100000 in
theorem c_Law_draw {l : Launch} {G : zLA} (hx : zxl G) (hm : zml G) {a0 : Int32} {σ : zSt} {r : Int32} {σ' : zSt} (hf : F_Law_draw G a0 σ = some (r, σ')) : zM l G y_Law_draw (zws y_Law_draw b_Law_draw 3 (some .int)) rm_Law_draw [.ref (zad G 4 80), .int a0] σ (some (.int r)) σ' := by
  refine z_ofM (own := "VillageWavesLaw") (lv := [(0, .ref (zad G 4 80)), (1, .int a0)]) (by decide +kernel) rfl rfl (Nat.le_of_ble_eq_true rfl) (fun p e s m args below meth c C => ?_)
  rw [F_Law_draw] at hf
  refine z_aload_n C d_Law_draw_0 0 rfl rfl ?_
  obtain ⟨h6, hf⟩ := iff_g hf
  refine gf_Law_18 C hm rfl (zop_r h6) d_Law_draw_1 ?_
  refine z_aload_n C d_Law_draw_4 0 rfl rfl ?_
  refine gf_Law_22 C hm rfl rfl d_Law_draw_5 ?_
  refine z_iconst C d_Law_draw_8 zki_1 ?_
  refine z_aload_n C d_Law_draw_9 0 rfl rfl ?_
  obtain ⟨h5, hf⟩ := iff_g hf
  refine gf_Law_18 C hm rfl (zop_r h5) d_Law_draw_10 ?_
  refine z_scrlen C d_Law_draw_13 ?_
  refine z_mmax C zq400 rfl (Nat.le_of_ble_eq_true rfl) (Nat.le_of_ble_eq_true rfl) (Nat.le_of_ble_eq_true rfl) (Nat.le_of_ble_eq_true rfl) (Nat.le_of_ble_eq_true rfl) d_Law_draw_14 ?_
  obtain ⟨h4, hf⟩ := iff_g hf
  refine z_irem C d_Law_draw_17 h4 ?_
  obtain ⟨r2, h1, hf⟩ := bd_s hf
  refine z_cSi C kl_Law_32 (c_Law_at h1) rfl rfl (Nat.le_of_ble_eq_true rfl) ⟨(Nat.le_of_ble_eq_true rfl), (Nat.le_of_ble_eq_true rfl)⟩ ⟨(Nat.le_of_ble_eq_true rfl), (Nat.le_of_ble_eq_true rfl)⟩ d_Law_draw_18 ?_
  refine z_aload_n C d_Law_draw_21 0 rfl rfl ?_
  refine gf_Law_22 C hm rfl rfl d_Law_draw_22 ?_
  refine z_ldc C d_Law_draw_25 zq406 ?_
  refine z_imul C d_Law_draw_27 ?_
  refine z_iadd C d_Law_draw_28 ?_
  refine z_istore_n C d_Law_draw_29 rfl (by decide) ?_
  refine z_lv (lv1 := [(2, .int (r2 + ((σ.1 4 80 2) * (668265263 : Int32)))), (0, .ref (zad G 4 80)), (1, .int a0)]) rfl ?_
  refine z_aload_n C d_Law_draw_30 1 rfl rfl ?_
  refine z_dup C d_Law_draw_31 rfl ?_
  refine gf_Law_22 C hm rfl rfl d_Law_draw_32 ?_
  refine z_iconst C d_Law_draw_35 zki_1 ?_
  refine z_iadd C d_Law_draw_36 ?_
  refine pf_Law_22 C hm rfl (Nat.le_of_ble_eq_true rfl) rfl d_Law_draw_37 ?_
  refine z_iload_n C d_Law_draw_40 0 rfl rfl ?_
  refine z_iload_n C d_Law_draw_41 0 rfl rfl ?_
  refine z_bipush C d_Law_draw_42 zkb_15 ?_
  refine z_iushr C d_Law_draw_44 ?_
  refine z_ixor C d_Law_draw_45 ?_
  refine z_istore_n C d_Law_draw_46 rfl (by decide) ?_
  refine z_lv (lv1 := [(2, .int ((r2 + ((σ.1 4 80 2) * (668265263 : Int32))) ^^^ ((r2 + ((σ.1 4 80 2) * (668265263 : Int32))).toUInt32 >>> ((15 : Int32).toUInt32 &&& Int32.toUInt32 31)).toInt32)), (0, .ref (zad G 4 80)), (1, .int a0)]) rfl ?_
  refine z_iload_n C d_Law_draw_47 0 rfl rfl ?_
  refine z_ldc C d_Law_draw_48 zq407 ?_
  refine z_imul C d_Law_draw_50 ?_
  refine z_istore_n C d_Law_draw_51 rfl (by decide) ?_
  refine z_lv (lv1 := [(2, .int (((r2 + ((σ.1 4 80 2) * (668265263 : Int32))) ^^^ ((r2 + ((σ.1 4 80 2) * (668265263 : Int32))).toUInt32 >>> ((15 : Int32).toUInt32 &&& Int32.toUInt32 31)).toInt32) * (739982445 : Int32))), (0, .ref (zad G 4 80)), (1, .int a0)]) rfl ?_
  refine z_iload_n C d_Law_draw_52 0 rfl rfl ?_
  refine z_iload_n C d_Law_draw_53 0 rfl rfl ?_
  refine z_bipush C d_Law_draw_54 zkb_13 ?_
  refine z_iushr C d_Law_draw_56 ?_
  refine z_ixor C d_Law_draw_57 ?_
  refine z_istore_n C d_Law_draw_58 rfl (by decide) ?_
  refine z_lv (lv1 := [(2, .int ((((r2 + ((σ.1 4 80 2) * (668265263 : Int32))) ^^^ ((r2 + ((σ.1 4 80 2) * (668265263 : Int32))).toUInt32 >>> ((15 : Int32).toUInt32 &&& Int32.toUInt32 31)).toInt32) * (739982445 : Int32)) ^^^ ((((r2 + ((σ.1 4 80 2) * (668265263 : Int32))) ^^^ ((r2 + ((σ.1 4 80 2) * (668265263 : Int32))).toUInt32 >>> ((15 : Int32).toUInt32 &&& Int32.toUInt32 31)).toInt32) * (739982445 : Int32)).toUInt32 >>> ((13 : Int32).toUInt32 &&& Int32.toUInt32 31)).toInt32)), (0, .ref (zad G 4 80)), (1, .int a0)]) rfl ?_
  refine z_iload_n C d_Law_draw_59 0 rfl rfl ?_
  refine z_ldc C d_Law_draw_60 zq408 ?_
  refine z_iand C d_Law_draw_62 ?_
  refine z_iload_n C d_Law_draw_63 2 rfl rfl ?_
  obtain ⟨h3, hf⟩ := iff_g hf
  refine z_irem C d_Law_draw_64 h3 ?_
  cases hf
  exact z_iret C rfl (Nat.le_of_ble_eq_true rfl) (Nat.le_of_ble_eq_true rfl) d_Law_draw_65
