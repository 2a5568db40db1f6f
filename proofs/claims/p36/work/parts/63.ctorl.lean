abbrev b_Law_init : ByteArray := method_1_code
abbrev y_Law_init : MethodName := ⟨"VillageWavesLaw", "<init>", "()V"⟩
theorem d_Law_init_0 : decode b_Law_init 0 = .ok (.aload_n 0, 1) := by decide +kernel
theorem d_Law_init_1 : decode b_Law_init 1 = .ok (.invokespecial 1, 3) := by decide +kernel
theorem d_Law_init_4 : decode b_Law_init 4 = .ok (.aload_n 0, 1) := by decide +kernel
theorem d_Law_init_5 : decode b_Law_init 5 = .ok (.new 7, 3) := by decide +kernel
theorem d_Law_init_8 : decode b_Law_init 8 = .ok (.dup, 1) := by decide +kernel
theorem d_Law_init_9 : decode b_Law_init 9 = .ok (.invokespecial 9, 3) := by decide +kernel
theorem d_Law_init_12 : decode b_Law_init 12 = .ok (.putfield 10, 3) := by decide +kernel
theorem d_Law_init_15 : decode b_Law_init 15 = .ok (.return_, 1) := by decide +kernel
theorem nf_9 : ∀ j, j < 3 → defaultValue (zt9 j) = vp_V ([.null, .null, .int 0] : List Value) j := fun j hj => by
  rcases (show j = 0 ∨ j = 1 ∨ j = 2 by omega) with rfl | rfl | rfl <;> rfl
set_option maxRecDepth 100000 in
theorem zq55 : (Cond.classLink "VillageWavesLaw" 7 "VillageWaves" : Cond) ∈ zGW := zgw 55 (by rfl) (by rfl)
set_option maxRecDepth 100000 in
theorem zq56 : (Cond.instantiable "VillageWaves" 6 : Cond) ∈ zGW := zgw 56 (by rfl) (by rfl)
set_option maxRecDepth 100000 in
theorem zq52 : (Cond.methodLink "VillageWavesLaw" 1 ⟨"java/lang/Object", "<init>", "()V"⟩ : Cond) ∈ zGW := zgw 52 (by rfl) (by rfl)
set_option maxRecDepth 100000 in
theorem zq58 : (Cond.instanceMethod ⟨"VillageWaves", "<init>", "()V"⟩ : Cond) ∈ zGW := zgw 58 (by rfl) (by rfl)
set_option maxRecDepth 100000 in
theorem zq59 : (Cond.code ⟨"VillageWaves", "<init>", "()V"⟩ prog_1_method_1_code 1 none : Cond) ∈ zGW := zgw 59 (by rfl) (by rfl)
set_option maxRecDepth 100000 in
theorem zq57 : (Cond.methodLink "VillageWavesLaw" 9 ⟨"VillageWaves", "<init>", "()V"⟩ : Cond) ∈ zGW := zgw 57 (by rfl) (by rfl)
theorem nl_Law_9 : nLI "VillageWavesLaw" 9 y_Waves_init b_Waves_init 1 0 := ⟨zq57, zq58, zq28, zq59, rfl, ⟨by decide, by decide, by decide +kernel⟩⟩
abbrev rm_Law_init : Room := { frames := 6, cells := 253, slots := 7824, locals := 132 }
/-- the law's object, its class -/
def nw_Law (G : zLA) (h : Nat) (σ0 σ1 σ2 σ3 : zSt) (q : Nat × (Nat → Nat → Nat)) : va_W :=
  (h, .inr (9, [.ref q.1, .null, .int 0])) :: nw_Waves G q.1 σ0 σ1 σ2 σ3 q.2
set_option maxRecDepth 100000 in
set_option maxHeartbeats 4000000 in
theorem c_Law_init (l : Launch) (G : zLA) (h : Nat) {σ0 σ1 σ2 σ3 : zSt} (hF0 : F_Village_clear 0 nσ0 = some σ0) (hF1 : F_Village_clear 1 nσ0 = some σ1) (hF2 : F_Village_clear 2 nσ0 = some σ2) (hF3 : F_Village_clear 3 nσ0 = some σ3) : nM l G y_Law_init (zws y_Law_init b_Law_init 1 none) rm_Law_init [.ref h] [(h, .inr (9, [.null, .null, .int 0]))] (nw_Law G h σ0 σ1 σ2 σ3) := by
  refine n_ofM (own := "VillageWavesLaw") (lv := [(0, .ref h)]) (by decide) rfl rfl rfl (Nat.le_of_ble_eq_true rfl) (fun p e s m args below meth c C hname => ?_)
  refine n_aload_n C d_Law_init_0 0 rfl rfl ?_
  refine n_obj C zq52 zq53 zq54 (Nat.le_of_ble_eq_true rfl) (Nat.le_of_ble_eq_true rfl) d_Law_init_1 ?_
  refine n_aload_n C d_Law_init_4 0 rfl rfl ?_
  refine n_new (ci := 8) (fs := [.null, .null, .null, .null, .int 0, .null]) C zin_8 zy8 rfl zq55 zq56 zq28 nf_8 (Nat.le_of_ble_eq_true rfl) (Nat.le_of_ble_eq_true rfl) d_Law_init_5 (fun q5 => ?_)
  refine n_dup C d_Law_init_8 rfl ?_
  refine n_callI (as := []) (rest := [.ref q5, .ref h]) C nl_Law_9 (c_Waves_init l G q5 hF0 hF1 hF2 hF3) rfl rfl (Nat.le_of_ble_eq_true rfl) ⟨(Nat.le_of_ble_eq_true rfl), (Nat.le_of_ble_eq_true rfl)⟩ ⟨(Nat.le_of_ble_eq_true rfl), (Nat.le_of_ble_eq_true rfl)⟩ d_Law_init_9 (fun f9 => ?_)
  refine n_putF (ty := .object "VillageWaves") C hname zin_9 zy9 zn9 rfl 0 (by decide) zq378 rfl rfl rfl (by decide +kernel) rfl rfl (Nat.le_of_ble_eq_true rfl) d_Law_init_12 ?_
  exact n_ret C (q5, f9) rfl rfl (Nat.le_of_ble_eq_true rfl) (Nat.le_of_ble_eq_true rfl) d_Law_init_15
