abbrev b_Waves_init : ByteArray := prog_1_method_1_code
abbrev y_Waves_init : MethodName := ⟨"VillageWaves", "<init>", "()V"⟩
theorem d_Waves_init_0 : decode b_Waves_init 0 = .ok (.aload_n 0, 1) := by decide +kernel
theorem d_Waves_init_1 : decode b_Waves_init 1 = .ok (.invokespecial 1, 3) := by decide +kernel
theorem d_Waves_init_4 : decode b_Waves_init 4 = .ok (.aload_n 0, 1) := by decide +kernel
theorem d_Waves_init_5 : decode b_Waves_init 5 = .ok (.new 7, 3) := by decide +kernel
theorem d_Waves_init_8 : decode b_Waves_init 8 = .ok (.dup, 1) := by decide +kernel
theorem d_Waves_init_9 : decode b_Waves_init 9 = .ok (.invokespecial 9, 3) := by decide +kernel
theorem d_Waves_init_12 : decode b_Waves_init 12 = .ok (.putfield 10, 3) := by decide +kernel
theorem d_Waves_init_15 : decode b_Waves_init 15 = .ok (.aload_n 0, 1) := by decide +kernel
theorem d_Waves_init_16 : decode b_Waves_init 16 = .ok (.new 7, 3) := by decide +kernel
theorem d_Waves_init_19 : decode b_Waves_init 19 = .ok (.dup, 1) := by decide +kernel
theorem d_Waves_init_20 : decode b_Waves_init 20 = .ok (.invokespecial 9, 3) := by decide +kernel
theorem d_Waves_init_23 : decode b_Waves_init 23 = .ok (.putfield 16, 3) := by decide +kernel
theorem d_Waves_init_26 : decode b_Waves_init 26 = .ok (.aload_n 0, 1) := by decide +kernel
theorem d_Waves_init_27 : decode b_Waves_init 27 = .ok (.new 7, 3) := by decide +kernel
theorem d_Waves_init_30 : decode b_Waves_init 30 = .ok (.dup, 1) := by decide +kernel
theorem d_Waves_init_31 : decode b_Waves_init 31 = .ok (.invokespecial 9, 3) := by decide +kernel
theorem d_Waves_init_34 : decode b_Waves_init 34 = .ok (.putfield 19, 3) := by decide +kernel
theorem d_Waves_init_37 : decode b_Waves_init 37 = .ok (.aload_n 0, 1) := by decide +kernel
theorem d_Waves_init_38 : decode b_Waves_init 38 = .ok (.new 7, 3) := by decide +kernel
theorem d_Waves_init_41 : decode b_Waves_init 41 = .ok (.dup, 1) := by decide +kernel
theorem d_Waves_init_42 : decode b_Waves_init 42 = .ok (.invokespecial 9, 3) := by decide +kernel
theorem d_Waves_init_45 : decode b_Waves_init 45 = .ok (.putfield 22, 3) := by decide +kernel
theorem d_Waves_init_48 : decode b_Waves_init 48 = .ok (.aload_n 0, 1) := by decide +kernel
theorem d_Waves_init_49 : decode b_Waves_init 49 = .ok (.iconst 0, 1) := by decide +kernel
theorem d_Waves_init_50 : decode b_Waves_init 50 = .ok (.putfield 25, 3) := by decide +kernel
theorem d_Waves_init_53 : decode b_Waves_init 53 = .ok (.aload_n 0, 1) := by decide +kernel
theorem d_Waves_init_54 : decode b_Waves_init 54 = .ok (.new 29, 3) := by decide +kernel
theorem d_Waves_init_57 : decode b_Waves_init 57 = .ok (.dup, 1) := by decide +kernel
theorem d_Waves_init_58 : decode b_Waves_init 58 = .ok (.invokespecial 31, 3) := by decide +kernel
theorem d_Waves_init_61 : decode b_Waves_init 61 = .ok (.putfield 32, 3) := by decide +kernel
theorem d_Waves_init_64 : decode b_Waves_init 64 = .ok (.return_, 1) := by decide +kernel
theorem nf_8 : ∀ j, j < 6 → defaultValue (zt8 j) = vp_V ([.null, .null, .null, .null, .int 0, .null] : List Value) j := fun j hj => by
  rcases (show j = 0 ∨ j = 1 ∨ j = 2 ∨ j = 3 ∨ j = 4 ∨ j = 5 by omega) with rfl | rfl | rfl | rfl | rfl | rfl <;> rfl
set_option maxRecDepth 100000 in
theorem zq60 : (Cond.methodLink "VillageWaves" 1 ⟨"java/lang/Object", "<init>", "()V"⟩ : Cond) ∈ zGW := zgw 60 (by rfl) (by rfl)
set_option maxRecDepth 100000 in
theorem zq61 : (Cond.classLink "VillageWaves" 7 "VillageWaves$Village" : Cond) ∈ zGW := zgw 61 (by rfl) (by rfl)
set_option maxRecDepth 100000 in
theorem zq62 : (Cond.instantiable "VillageWaves$Village" 13 : Cond) ∈ zGW := zgw 62 (by rfl) (by rfl)
set_option maxRecDepth 100000 in
theorem zq64 : (Cond.instanceMethod ⟨"VillageWaves$Village", "<init>", "()V"⟩ : Cond) ∈ zGW := zgw 64 (by rfl) (by rfl)
set_option maxRecDepth 100000 in
theorem zq65 : (Cond.code ⟨"VillageWaves$Village", "<init>", "()V"⟩ prog_9_method_1_code 1 none : Cond) ∈ zGW := zgw 65 (by rfl) (by rfl)
set_option maxRecDepth 100000 in
theorem zq63 : (Cond.methodLink "VillageWaves" 9 ⟨"VillageWaves$Village", "<init>", "()V"⟩ : Cond) ∈ zGW := zgw 63 (by rfl) (by rfl)
theorem nl_Waves_9 : nLI "VillageWaves" 9 y_Village_init b_Village_init 1 0 := ⟨zq63, zq64, zq29, zq65, rfl, ⟨by decide, by decide, by decide +kernel⟩⟩
set_option maxRecDepth 100000 in
theorem zq316 : (Cond.classLink "VillageWaves" 29 "VillageWaves$Reader" : Cond) ∈ zGW := zgw 316 (by rfl) (by rfl)
set_option maxRecDepth 100000 in
theorem zq317 : (Cond.instantiable "VillageWaves$Reader" 3 : Cond) ∈ zGW := zgw 317 (by rfl) (by rfl)
set_option maxRecDepth 100000 in
theorem zq37 : (Cond.initialized "VillageWaves$Reader" : Cond) ∈ zGW := zgw 37 (by rfl) (by rfl)
set_option maxRecDepth 100000 in
theorem zq319 : (Cond.instanceMethod ⟨"VillageWaves$Reader", "<init>", "()V"⟩ : Cond) ∈ zGW := zgw 319 (by rfl) (by rfl)
set_option maxRecDepth 100000 in
theorem zq320 : (Cond.code ⟨"VillageWaves$Reader", "<init>", "()V"⟩ prog_5_method_1_code 1 none : Cond) ∈ zGW := zgw 320 (by rfl) (by rfl)
set_option maxRecDepth 100000 in
theorem zp318 : (Cond.methodLinkNest "VillageWaves" 31 ⟨"VillageWaves$Reader", "<init>", "()V"⟩ "VillageWaves" : Cond) ∈ zNW := znw 318 (by rfl) (by rfl)
theorem nl_Waves_31 : nLN "VillageWaves" 31 y_Reader_init "VillageWaves" b_Reader_init 1 0 := ⟨zp318, zq319, zq37, zq320, rfl, ⟨by decide, by decide, by decide +kernel⟩⟩
set_option maxRecDepth 100000 in
theorem zq364 : (Cond.fieldLink "VillageWaves" 32 "VillageWaves" "reader" "LVillageWaves$Reader;" : Cond) ∈ zGW := zgw 364 (by rfl) (by rfl)
abbrev rm_Waves_init : Room := { frames := 5, cells := 252, slots := 7818, locals := 112 }
/-- the class: its four villages (addresses q 0 .. q 3), its reader (q 4) -/
def nw_Waves (G : zLA) (h : Nat) (σ0 σ1 σ2 σ3 : zSt) (q : Nat → Nat → Nat) : va_W :=
  (h, .inr (8, [.ref (q 0 0), .ref (q 1 0), .ref (q 2 0), .ref (q 3 0), .int 0, .ref (q 4 0)])) :: ((((zwd (nG G 0 (q 0)) σ0 ++ zwd (nG G 1 (q 1)) σ1) ++ zwd (nG G 2 (q 2)) σ2) ++ zwd (nG G 3 (q 3)) σ3) ++ nw_Reader G (q 4 0) (fun i => q 4 (i + 1)))
set_option maxRecDepth 100000 in
set_option maxHeartbeats 4000000 in
theorem c_Waves_init (l : Launch) (G : zLA) (h : Nat) {σ0 σ1 σ2 σ3 : zSt} (hF0 : F_Village_clear 0 nσ0 = some σ0) (hF1 : F_Village_clear 1 nσ0 = some σ1) (hF2 : F_Village_clear 2 nσ0 = some σ2) (hF3 : F_Village_clear 3 nσ0 = some σ3) : nM l G y_Waves_init (zws y_Waves_init b_Waves_init 1 none) rm_Waves_init [.ref h] [(h, .inr (8, [.null, .null, .null, .null, .int 0, .null]))] (nw_Waves G h σ0 σ1 σ2 σ3) := by
  refine n_ofM (own := "VillageWaves") (lv := [(0, .ref h)]) (by decide) rfl rfl rfl (Nat.le_of_ble_eq_true rfl) (fun p e s m args below meth c C hname => ?_)
  refine n_aload_n C d_Waves_init_0 0 rfl rfl ?_
  refine n_obj C zq60 zq53 zq54 (Nat.le_of_ble_eq_true rfl) (Nat.le_of_ble_eq_true rfl) d_Waves_init_1 ?_
  refine n_aload_n C d_Waves_init_4 0 rfl rfl ?_
  refine n_new (ci := 7) (fs := [.int 0, .int 0, .int 0, .int 0, .null, .null, .null, .null, .null, .null, .null, .null, .null]) C zin_7 zy7 rfl zq61 zq62 zq29 nf_7 (Nat.le_of_ble_eq_true rfl) (Nat.le_of_ble_eq_true rfl) d_Waves_init_5 (fun q5 => ?_)
  refine n_dup C d_Waves_init_8 rfl ?_
  refine n_callI (as := []) (rest := [.ref q5, .ref h]) C nl_Waves_9 (c_Village_init l G 0 (by decide) q5 hF0) rfl rfl (Nat.le_of_ble_eq_true rfl) ⟨(Nat.le_of_ble_eq_true rfl), (Nat.le_of_ble_eq_true rfl)⟩ ⟨(Nat.le_of_ble_eq_true rfl), (Nat.le_of_ble_eq_true rfl)⟩ d_Waves_init_9 (fun f9 => ?_)
  refine n_putF (ty := .object "VillageWaves$Village") C hname zin_8 zy8 zn8 rfl 0 (by decide) zq359 rfl rfl rfl (by decide +kernel) rfl rfl (Nat.le_of_ble_eq_true rfl) d_Waves_init_12 ?_
  refine n_aload_n C d_Waves_init_15 0 rfl rfl ?_
  refine n_new (ci := 7) (fs := [.int 0, .int 0, .int 0, .int 0, .null, .null, .null, .null, .null, .null, .null, .null, .null]) C zin_7 zy7 rfl zq61 zq62 zq29 nf_7 (Nat.le_of_ble_eq_true rfl) (Nat.le_of_ble_eq_true rfl) d_Waves_init_16 (fun q16 => ?_)
  refine n_dup C d_Waves_init_19 rfl ?_
  refine n_callI (as := []) (rest := [.ref q16, .ref h]) C nl_Waves_9 (c_Village_init l G 1 (by decide) q16 hF1) rfl rfl (Nat.le_of_ble_eq_true rfl) ⟨(Nat.le_of_ble_eq_true rfl), (Nat.le_of_ble_eq_true rfl)⟩ ⟨(Nat.le_of_ble_eq_true rfl), (Nat.le_of_ble_eq_true rfl)⟩ d_Waves_init_20 (fun f20 => ?_)
  refine n_putF (ty := .object "VillageWaves$Village") C hname zin_8 zy8 zn8 rfl 1 (by decide) zq360 rfl rfl rfl (by decide +kernel) rfl rfl (Nat.le_of_ble_eq_true rfl) d_Waves_init_23 ?_
  refine n_aload_n C d_Waves_init_26 0 rfl rfl ?_
  refine n_new (ci := 7) (fs := [.int 0, .int 0, .int 0, .int 0, .null, .null, .null, .null, .null, .null, .null, .null, .null]) C zin_7 zy7 rfl zq61 zq62 zq29 nf_7 (Nat.le_of_ble_eq_true rfl) (Nat.le_of_ble_eq_true rfl) d_Waves_init_27 (fun q27 => ?_)
  refine n_dup C d_Waves_init_30 rfl ?_
  refine n_callI (as := []) (rest := [.ref q27, .ref h]) C nl_Waves_9 (c_Village_init l G 2 (by decide) q27 hF2) rfl rfl (Nat.le_of_ble_eq_true rfl) ⟨(Nat.le_of_ble_eq_true rfl), (Nat.le_of_ble_eq_true rfl)⟩ ⟨(Nat.le_of_ble_eq_true rfl), (Nat.le_of_ble_eq_true rfl)⟩ d_Waves_init_31 (fun f31 => ?_)
  refine n_putF (ty := .object "VillageWaves$Village") C hname zin_8 zy8 zn8 rfl 2 (by decide) zq361 rfl rfl rfl (by decide +kernel) rfl rfl (Nat.le_of_ble_eq_true rfl) d_Waves_init_34 ?_
  refine n_aload_n C d_Waves_init_37 0 rfl rfl ?_
  refine n_new (ci := 7) (fs := [.int 0, .int 0, .int 0, .int 0, .null, .null, .null, .null, .null, .null, .null, .null, .null]) C zin_7 zy7 rfl zq61 zq62 zq29 nf_7 (Nat.le_of_ble_eq_true rfl) (Nat.le_of_ble_eq_true rfl) d_Waves_init_38 (fun q38 => ?_)
  refine n_dup C d_Waves_init_41 rfl ?_
  refine n_callI (as := []) (rest := [.ref q38, .ref h]) C nl_Waves_9 (c_Village_init l G 3 (by decide) q38 hF3) rfl rfl (Nat.le_of_ble_eq_true rfl) ⟨(Nat.le_of_ble_eq_true rfl), (Nat.le_of_ble_eq_true rfl)⟩ ⟨(Nat.le_of_ble_eq_true rfl), (Nat.le_of_ble_eq_true rfl)⟩ d_Waves_init_42 (fun f42 => ?_)
  refine n_putF (ty := .object "VillageWaves$Village") C hname zin_8 zy8 zn8 rfl 3 (by decide) zq362 rfl rfl rfl (by decide +kernel) rfl rfl (Nat.le_of_ble_eq_true rfl) d_Waves_init_45 ?_
  refine n_aload_n C d_Waves_init_48 0 rfl rfl ?_
  refine n_iconst (v := 0) C d_Waves_init_49 (by decide) ?_
  refine n_put C zin_8 zy8 zn8 rfl 4 (by decide) zq363 rfl rfl (by decide +kernel) (Nat.le_of_ble_eq_true rfl) d_Waves_init_50 ?_
  refine n_aload_n C d_Waves_init_53 0 rfl rfl ?_
  refine n_new (ci := 3) (fs := [.null, .int 0, .int 0]) C zin_3 zy3 rfl zq316 zq317 zq37 nf_3 (Nat.le_of_ble_eq_true rfl) (Nat.le_of_ble_eq_true rfl) d_Waves_init_54 (fun q54 => ?_)
  refine n_dup C d_Waves_init_57 rfl ?_
  refine n_callIN (as := []) (rest := [.ref q54, .ref h]) C nl_Waves_31 (c_Reader_init l G q54) rfl rfl (Nat.le_of_ble_eq_true rfl) ⟨(Nat.le_of_ble_eq_true rfl), (Nat.le_of_ble_eq_true rfl)⟩ ⟨(Nat.le_of_ble_eq_true rfl), (Nat.le_of_ble_eq_true rfl)⟩ d_Waves_init_58 (fun f58 => ?_)
  refine n_putF (ty := .object "VillageWaves$Reader") C hname zin_8 zy8 zn8 rfl 5 (by decide) zq364 rfl rfl rfl (by decide +kernel) rfl rfl (Nat.le_of_ble_eq_true rfl) d_Waves_init_61 ?_
  exact n_ret C (fun g => match g with | 0 => nA q5 f9 | 1 => nA q16 f20 | 2 => nA q27 f31 | 3 => nA q38 f42 | _ => nA q54 f58) rfl rfl (Nat.le_of_ble_eq_true rfl) (Nat.le_of_ble_eq_true rfl) d_Waves_init_64
