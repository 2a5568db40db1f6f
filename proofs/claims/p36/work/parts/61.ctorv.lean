abbrev b_Village_init : ByteArray := prog_9_method_1_code
abbrev y_Village_init : MethodName := ⟨"VillageWaves$Village", "<init>", "()V"⟩
theorem d_Village_init_0 : decode b_Village_init 0 = .ok (.aload_n 0, 1) := by decide +kernel
theorem d_Village_init_1 : decode b_Village_init 1 = .ok (.invokespecial 3, 3) := by decide +kernel
theorem d_Village_init_4 : decode b_Village_init 4 = .ok (.aload_n 0, 1) := by decide +kernel
theorem d_Village_init_5 : decode b_Village_init 5 = .ok (.bipush 48, 2) := by decide +kernel
theorem d_Village_init_7 : decode b_Village_init 7 = .ok (.putfield 9, 3) := by decide +kernel
theorem d_Village_init_10 : decode b_Village_init 10 = .ok (.aload_n 0, 1) := by decide +kernel
theorem d_Village_init_11 : decode b_Village_init 11 = .ok (.iconst 0, 1) := by decide +kernel
theorem d_Village_init_12 : decode b_Village_init 12 = .ok (.putfield 15, 3) := by decide +kernel
theorem d_Village_init_15 : decode b_Village_init 15 = .ok (.aload_n 0, 1) := by decide +kernel
theorem d_Village_init_16 : decode b_Village_init 16 = .ok (.iconst 1, 1) := by decide +kernel
theorem d_Village_init_17 : decode b_Village_init 17 = .ok (.putfield 18, 3) := by decide +kernel
theorem d_Village_init_20 : decode b_Village_init 20 = .ok (.aload_n 0, 1) := by decide +kernel
theorem d_Village_init_21 : decode b_Village_init 21 = .ok (.iconst 0, 1) := by decide +kernel
theorem d_Village_init_22 : decode b_Village_init 22 = .ok (.putfield 21, 3) := by decide +kernel
theorem d_Village_init_25 : decode b_Village_init 25 = .ok (.aload_n 0, 1) := by decide +kernel
theorem d_Village_init_26 : decode b_Village_init 26 = .ok (.new 24, 3) := by decide +kernel
theorem d_Village_init_29 : decode b_Village_init 29 = .ok (.dup, 1) := by decide +kernel
theorem d_Village_init_30 : decode b_Village_init 30 = .ok (.iconst 5, 1) := by decide +kernel
theorem d_Village_init_31 : decode b_Village_init 31 = .ok (.invokespecial 26, 3) := by decide +kernel
theorem d_Village_init_34 : decode b_Village_init 34 = .ok (.putfield 29, 3) := by decide +kernel
theorem d_Village_init_37 : decode b_Village_init 37 = .ok (.aload_n 0, 1) := by decide +kernel
theorem d_Village_init_38 : decode b_Village_init 38 = .ok (.new 33, 3) := by decide +kernel
theorem d_Village_init_41 : decode b_Village_init 41 = .ok (.dup, 1) := by decide +kernel
theorem d_Village_init_42 : decode b_Village_init 42 = .ok (.invokespecial 35, 3) := by decide +kernel
theorem d_Village_init_45 : decode b_Village_init 45 = .ok (.putfield 36, 3) := by decide +kernel
theorem d_Village_init_48 : decode b_Village_init 48 = .ok (.aload_n 0, 1) := by decide +kernel
theorem d_Village_init_49 : decode b_Village_init 49 = .ok (.new 40, 3) := by decide +kernel
theorem d_Village_init_52 : decode b_Village_init 52 = .ok (.dup, 1) := by decide +kernel
theorem d_Village_init_53 : decode b_Village_init 53 = .ok (.invokespecial 42, 3) := by decide +kernel
theorem d_Village_init_56 : decode b_Village_init 56 = .ok (.putfield 43, 3) := by decide +kernel
theorem d_Village_init_59 : decode b_Village_init 59 = .ok (.aload_n 0, 1) := by decide +kernel
theorem d_Village_init_60 : decode b_Village_init 60 = .ok (.new 47, 3) := by decide +kernel
theorem d_Village_init_63 : decode b_Village_init 63 = .ok (.dup, 1) := by decide +kernel
theorem d_Village_init_64 : decode b_Village_init 64 = .ok (.invokespecial 49, 3) := by decide +kernel
theorem d_Village_init_67 : decode b_Village_init 67 = .ok (.putfield 50, 3) := by decide +kernel
theorem d_Village_init_70 : decode b_Village_init 70 = .ok (.aload_n 0, 1) := by decide +kernel
theorem d_Village_init_71 : decode b_Village_init 71 = .ok (.new 47, 3) := by decide +kernel
theorem d_Village_init_74 : decode b_Village_init 74 = .ok (.dup, 1) := by decide +kernel
theorem d_Village_init_75 : decode b_Village_init 75 = .ok (.invokespecial 49, 3) := by decide +kernel
theorem d_Village_init_78 : decode b_Village_init 78 = .ok (.putfield 54, 3) := by decide +kernel
theorem d_Village_init_81 : decode b_Village_init 81 = .ok (.aload_n 0, 1) := by decide +kernel
theorem d_Village_init_82 : decode b_Village_init 82 = .ok (.new 24, 3) := by decide +kernel
theorem d_Village_init_85 : decode b_Village_init 85 = .ok (.dup, 1) := by decide +kernel
theorem d_Village_init_86 : decode b_Village_init 86 = .ok (.sipush 240, 3) := by decide +kernel
theorem d_Village_init_89 : decode b_Village_init 89 = .ok (.invokespecial 26, 3) := by decide +kernel
theorem d_Village_init_92 : decode b_Village_init 92 = .ok (.putfield 57, 3) := by decide +kernel
theorem d_Village_init_95 : decode b_Village_init 95 = .ok (.aload_n 0, 1) := by decide +kernel
theorem d_Village_init_96 : decode b_Village_init 96 = .ok (.new 24, 3) := by decide +kernel
theorem d_Village_init_99 : decode b_Village_init 99 = .ok (.dup, 1) := by decide +kernel
theorem d_Village_init_100 : decode b_Village_init 100 = .ok (.sipush 240, 3) := by decide +kernel
theorem d_Village_init_103 : decode b_Village_init 103 = .ok (.invokespecial 26, 3) := by decide +kernel
theorem d_Village_init_106 : decode b_Village_init 106 = .ok (.putfield 60, 3) := by decide +kernel
theorem d_Village_init_109 : decode b_Village_init 109 = .ok (.aload_n 0, 1) := by decide +kernel
theorem d_Village_init_110 : decode b_Village_init 110 = .ok (.new 24, 3) := by decide +kernel
theorem d_Village_init_113 : decode b_Village_init 113 = .ok (.dup, 1) := by decide +kernel
theorem d_Village_init_114 : decode b_Village_init 114 = .ok (.sipush 240, 3) := by decide +kernel
theorem d_Village_init_117 : decode b_Village_init 117 = .ok (.invokespecial 26, 3) := by decide +kernel
theorem d_Village_init_120 : decode b_Village_init 120 = .ok (.putfield 63, 3) := by decide +kernel
theorem d_Village_init_123 : decode b_Village_init 123 = .ok (.aload_n 0, 1) := by decide +kernel
theorem d_Village_init_124 : decode b_Village_init 124 = .ok (.new 66, 3) := by decide +kernel
theorem d_Village_init_127 : decode b_Village_init 127 = .ok (.dup, 1) := by decide +kernel
theorem d_Village_init_128 : decode b_Village_init 128 = .ok (.invokespecial 68, 3) := by decide +kernel
theorem d_Village_init_131 : decode b_Village_init 131 = .ok (.putfield 69, 3) := by decide +kernel
theorem d_Village_init_134 : decode b_Village_init 134 = .ok (.aload_n 0, 1) := by decide +kernel
theorem d_Village_init_135 : decode b_Village_init 135 = .ok (.invokevirtual 73, 3) := by decide +kernel
theorem d_Village_init_138 : decode b_Village_init 138 = .ok (.return_, 1) := by decide +kernel
theorem nf_7 : ∀ j, j < 13 → defaultValue (zt7 j) = vp_V ([.int 0, .int 0, .int 0, .int 0, .null, .null, .null, .null, .null, .null, .null, .null, .null] : List Value) j := fun j hj => by
  rcases (show j = 0 ∨ j = 1 ∨ j = 2 ∨ j = 3 ∨ j = 4 ∨ j = 5 ∨ j = 6 ∨ j = 7 ∨ j = 8 ∨ j = 9 ∨ j = 10 ∨ j = 11 ∨ j = 12 by omega) with rfl | rfl | rfl | rfl | rfl | rfl | rfl | rfl | rfl | rfl | rfl | rfl | rfl <;> rfl
set_option maxRecDepth 100000 in
theorem zq66 : (Cond.methodLink "VillageWaves$Village" 3 ⟨"java/lang/Object", "<init>", "()V"⟩ : Cond) ∈ zGW := zgw 66 (by rfl) (by rfl)
set_option maxRecDepth 100000 in
theorem zq67 : (Cond.classLink "VillageWaves$Village" 24 "VillageWaves$Row" : Cond) ∈ zGW := zgw 67 (by rfl) (by rfl)
set_option maxRecDepth 100000 in
theorem zq69 : (Cond.methodLink "VillageWaves$Village" 26 ⟨"VillageWaves$Row", "<init>", "(I)V"⟩ : Cond) ∈ zGW := zgw 69 (by rfl) (by rfl)
theorem nl_Village_26 : nLI "VillageWaves$Village" 26 y_Row_init b_Row_init 2 1 := ⟨zq69, zq70, zq30, zq71, rfl, ⟨by decide, by decide, by decide +kernel⟩⟩
set_option maxRecDepth 100000 in
theorem zq81 : (Cond.classLink "VillageWaves$Village" 33 "VillageWaves$Homes" : Cond) ∈ zGW := zgw 81 (by rfl) (by rfl)
set_option maxRecDepth 100000 in
theorem zq82 : (Cond.instantiable "VillageWaves$Homes" 11 : Cond) ∈ zGW := zgw 82 (by rfl) (by rfl)
set_option maxRecDepth 100000 in
theorem zq84 : (Cond.instanceMethod ⟨"VillageWaves$Homes", "<init>", "()V"⟩ : Cond) ∈ zGW := zgw 84 (by rfl) (by rfl)
set_option maxRecDepth 100000 in
theorem zq85 : (Cond.code ⟨"VillageWaves$Homes", "<init>", "()V"⟩ prog_3_method_1_code 1 none : Cond) ∈ zGW := zgw 85 (by rfl) (by rfl)
set_option maxRecDepth 100000 in
theorem zp83 : (Cond.methodLinkNest "VillageWaves$Village" 35 ⟨"VillageWaves$Homes", "<init>", "()V"⟩ "VillageWaves" : Cond) ∈ zNW := znw 83 (by rfl) (by rfl)
theorem nl_Village_35 : nLN "VillageWaves$Village" 35 y_Homes_init "VillageWaves" b_Homes_init 1 0 := ⟨zp83, zq84, zq32, zq85, rfl, ⟨by decide, by decide, by decide +kernel⟩⟩
set_option maxRecDepth 100000 in
theorem zq140 : (Cond.classLink "VillageWaves$Village" 40 "VillageWaves$Tidings" : Cond) ∈ zGW := zgw 140 (by rfl) (by rfl)
set_option maxRecDepth 100000 in
theorem zq141 : (Cond.instantiable "VillageWaves$Tidings" 10 : Cond) ∈ zGW := zgw 141 (by rfl) (by rfl)
set_option maxRecDepth 100000 in
theorem zq143 : (Cond.instanceMethod ⟨"VillageWaves$Tidings", "<init>", "()V"⟩ : Cond) ∈ zGW := zgw 143 (by rfl) (by rfl)
set_option maxRecDepth 100000 in
theorem zq144 : (Cond.code ⟨"VillageWaves$Tidings", "<init>", "()V"⟩ prog_8_method_1_code 1 none : Cond) ∈ zGW := zgw 144 (by rfl) (by rfl)
set_option maxRecDepth 100000 in
theorem zp142 : (Cond.methodLinkNest "VillageWaves$Village" 42 ⟨"VillageWaves$Tidings", "<init>", "()V"⟩ "VillageWaves" : Cond) ∈ zNW := znw 142 (by rfl) (by rfl)
theorem nl_Village_42 : nLN "VillageWaves$Village" 42 y_Tidings_init "VillageWaves" b_Tidings_init 1 0 := ⟨zp142, zq143, zq33, zq144, rfl, ⟨by decide, by decide, by decide +kernel⟩⟩
set_option maxRecDepth 100000 in
theorem zq196 : (Cond.classLink "VillageWaves$Village" 47 "VillageWaves$Entries" : Cond) ∈ zGW := zgw 196 (by rfl) (by rfl)
set_option maxRecDepth 100000 in
theorem zq197 : (Cond.instantiable "VillageWaves$Entries" 2 : Cond) ∈ zGW := zgw 197 (by rfl) (by rfl)
set_option maxRecDepth 100000 in
theorem zq199 : (Cond.instanceMethod ⟨"VillageWaves$Entries", "<init>", "()V"⟩ : Cond) ∈ zGW := zgw 199 (by rfl) (by rfl)
set_option maxRecDepth 100000 in
theorem zq200 : (Cond.code ⟨"VillageWaves$Entries", "<init>", "()V"⟩ prog_2_method_1_code 1 none : Cond) ∈ zGW := zgw 200 (by rfl) (by rfl)
set_option maxRecDepth 100000 in
theorem zp198 : (Cond.methodLinkNest "VillageWaves$Village" 49 ⟨"VillageWaves$Entries", "<init>", "()V"⟩ "VillageWaves" : Cond) ∈ zNW := znw 198 (by rfl) (by rfl)
theorem nl_Village_49 : nLN "VillageWaves$Village" 49 y_Entries_init "VillageWaves" b_Entries_init 1 0 := ⟨zp198, zq199, zq34, zq200, rfl, ⟨by decide, by decide, by decide +kernel⟩⟩
set_option maxRecDepth 100000 in
theorem zq212 : (Cond.classLink "VillageWaves$Village" 66 "VillageWaves$Journal" : Cond) ∈ zGW := zgw 212 (by rfl) (by rfl)
set_option maxRecDepth 100000 in
theorem zq213 : (Cond.instantiable "VillageWaves$Journal" 2 : Cond) ∈ zGW := zgw 213 (by rfl) (by rfl)
set_option maxRecDepth 100000 in
theorem zq215 : (Cond.instanceMethod ⟨"VillageWaves$Journal", "<init>", "()V"⟩ : Cond) ∈ zGW := zgw 215 (by rfl) (by rfl)
set_option maxRecDepth 100000 in
theorem zq216 : (Cond.code ⟨"VillageWaves$Journal", "<init>", "()V"⟩ prog_4_method_1_code 1 none : Cond) ∈ zGW := zgw 216 (by rfl) (by rfl)
set_option maxRecDepth 100000 in
theorem zp214 : (Cond.methodLinkNest "VillageWaves$Village" 68 ⟨"VillageWaves$Journal", "<init>", "()V"⟩ "VillageWaves" : Cond) ∈ zNW := znw 214 (by rfl) (by rfl)
theorem nl_Village_68 : nLN "VillageWaves$Village" 68 y_Journal_init "VillageWaves" b_Journal_init 1 0 := ⟨zp214, zq215, zq35, zq216, rfl, ⟨by decide, by decide, by decide +kernel⟩⟩
set_option maxRecDepth 100000 in
theorem zq228 : (Cond.methodLink "VillageWaves$Village" 73 ⟨"VillageWaves$Village", "clear", "()V"⟩ : Cond) ∈ zGW := zgw 228 (by rfl) (by rfl)
set_option maxRecDepth 100000 in
theorem zq229 : (Cond.instanceMethod ⟨"VillageWaves$Village", "clear", "()V"⟩ : Cond) ∈ zGW := zgw 229 (by rfl) (by rfl)
set_option maxRecDepth 100000 in
theorem zq230 : (Cond.selects "VillageWaves$Village" ⟨"VillageWaves$Village", "clear", "()V"⟩ ⟨"VillageWaves$Village", "clear", "()V"⟩ : Cond) ∈ zGW := zgw 230 (by rfl) (by rfl)
set_option maxRecDepth 100000 in
theorem zq231 : (Cond.code ⟨"VillageWaves$Village", "clear", "()V"⟩ prog_9_method_2_code 2 none : Cond) ∈ zGW := zgw 231 (by rfl) (by rfl)
theorem nkl_Village_73 : zLV "VillageWaves$Village" 73 "VillageWaves$Village" y_Village_clear b_Village_clear 2 none 0 := ⟨zq228, zq229, zq230, zq29, zq231, rfl, ⟨by decide, by decide, by decide +kernel⟩⟩
/-- a village alone: its cells' addresses a, its group v -/
def nvl (v : Nat) : List (Nat × Nat) := [(v, 0), (v, 1), (v, 2), (v, 3), (v, 4), (v, 5), (v, 6), (v, 7), (v, 8), (v, 9), (v, 10), (v, 11), (v, 12), (v, 13), (v, 14), (v, 15), (v, 16), (v, 17), (v, 18), (v, 19), (v, 20), (v, 21), (v, 22), (v, 23), (v, 24), (v, 25), (v, 26), (v, 27), (v, 28), (v, 29), (v, 30), (v, 31), (v, 32), (v, 33), (v, 34), (v, 35), (v, 36), (v, 37), (v, 38), (v, 39), (v, 40), (v, 41), (v, 42), (v, 43), (v, 44), (v, 45), (v, 46), (v, 47), (v, 48), (v, 49), (v, 50), (v, 51), (v, 52), (v, 53), (v, 54), (v, 55), (v, 56), (v, 57), (v, 58), (v, 59), (v, 60), (v, 61)]
def nG (G : zLA) (v : Nat) (a : Nat → Nat) : zLA := (G.1, G.2.1, (fun _ o => a o), G.2.2.2.1, G.2.2.2.2.1, nvl v, G.2.2.2.2.2.2)
def nA (h : Nat) (q : Nat → Nat) : Nat → Nat := fun o => match o with
  | 0 => h
  | o + 1 => q o
/-- a village's numbers before clear() -/
def nσ0 : zSt := (fun _ o => match o with
  | 0 => (fun i => match i with
    | 0 => 48
    | 2 => 1
    | _ => 0)
  | _ => (fun _ => 0), fun _ => 0, fun _ => 0)
theorem nvl_ok {v : Nat} (hv : v < 4) : zLok (nvl v) := by
  rcases (show v = 0 ∨ v = 1 ∨ v = 2 ∨ v = 3 by omega) with rfl | rfl | rfl | rfl <;> exact ⟨by decide +kernel, by decide +kernel⟩
theorem nvl_in (v : Nat) : ∀ o, o < 62 → (v, o) ∈ nvl v := by
  have h : nvl v = (List.range 62).map (fun o => (v, o)) := rfl
  intro o ho
  rw [h]
  exact List.mem_map.mpr ⟨o, List.mem_range.mpr ho, rfl⟩
theorem nG_vl (G : zLA) (v : Nat) (a : Nat → Nat) : zvl (nG G v a) v := nvl_in v
abbrev rm_Village_init : Room := { frames := 4, cells := 61, slots := 1764, locals := 88 }
def nw_Village (G : zLA) (v h : Nat) (σ : zSt) (q : Nat → Nat) : va_W := zwd (nG G v (nA h q)) σ
set_option maxRecDepth 100000 in
set_option maxHeartbeats 4000000 in
theorem c_Village_init (l : Launch) (G : zLA) (v : Nat) (hv : v < 4) (h : Nat) {σ : zSt} (hF : F_Village_clear v nσ0 = some σ) : nM l G y_Village_init (zws y_Village_init b_Village_init 1 none) rm_Village_init [.ref h] [(h, .inr (7, [.int 0, .int 0, .int 0, .int 0, .null, .null, .null, .null, .null, .null, .null, .null, .null]))] (nw_Village G v h σ) := by
  refine n_ofM (own := "VillageWaves$Village") (lv := [(0, .ref h)]) (by decide) rfl rfl rfl (Nat.le_of_ble_eq_true rfl) (fun p e s m args below meth c C hname => ?_)
  refine n_aload_n C d_Village_init_0 0 rfl rfl ?_
  refine n_obj C zq66 zq53 zq54 (Nat.le_of_ble_eq_true rfl) (Nat.le_of_ble_eq_true rfl) d_Village_init_1 ?_
  refine n_aload_n C d_Village_init_4 0 rfl rfl ?_
  refine n_bipush (v := 48) C d_Village_init_5 (by decide) ?_
  refine n_put C zin_7 zy7 zn7 rfl 0 (by decide) zq264 rfl rfl (by decide +kernel) (Nat.le_of_ble_eq_true rfl) d_Village_init_7 ?_
  refine n_aload_n C d_Village_init_10 0 rfl rfl ?_
  refine n_iconst (v := 0) C d_Village_init_11 (by decide) ?_
  refine n_put C zin_7 zy7 zn7 rfl 1 (by decide) zq266 rfl rfl (by decide +kernel) (Nat.le_of_ble_eq_true rfl) d_Village_init_12 ?_
  refine n_aload_n C d_Village_init_15 0 rfl rfl ?_
  refine n_iconst (v := 1) C d_Village_init_16 (by decide) ?_
  refine n_put C zin_7 zy7 zn7 rfl 2 (by decide) zq268 rfl rfl (by decide +kernel) (Nat.le_of_ble_eq_true rfl) d_Village_init_17 ?_
  refine n_aload_n C d_Village_init_20 0 rfl rfl ?_
  refine n_iconst (v := 0) C d_Village_init_21 (by decide) ?_
  refine n_put C zin_7 zy7 zn7 rfl 3 (by decide) zq270 rfl rfl (by decide +kernel) (Nat.le_of_ble_eq_true rfl) d_Village_init_22 ?_
  refine n_aload_n C d_Village_init_25 0 rfl rfl ?_
  refine n_new (ci := 4) (fs := [.null]) C zin_4 zy4 rfl zq67 zq68 zq30 nf_4 (Nat.le_of_ble_eq_true rfl) (Nat.le_of_ble_eq_true rfl) d_Village_init_26 (fun q26 => ?_)
  refine n_dup C d_Village_init_29 rfl ?_
  refine n_iconst (v := 5) C d_Village_init_30 (by decide) ?_
  refine n_callI (as := [.int 5]) (rest := [.ref q26, .ref h]) C nl_Village_26 (c_Row_init l G q26 (n := 5) (N := 5) (by decide) (by decide) (by decide)) rfl rfl (Nat.le_of_ble_eq_true rfl) ⟨(Nat.le_of_ble_eq_true rfl), (Nat.le_of_ble_eq_true rfl)⟩ ⟨(Nat.le_of_ble_eq_true rfl), (Nat.le_of_ble_eq_true rfl)⟩ d_Village_init_31 (fun f31 => ?_)
  refine n_putF (ty := .object "VillageWaves$Row") C hname zin_7 zy7 zn7 rfl 4 (by decide) zq272 rfl rfl rfl (by decide +kernel) rfl rfl (Nat.le_of_ble_eq_true rfl) d_Village_init_34 ?_
  refine n_aload_n C d_Village_init_37 0 rfl rfl ?_
  refine n_new (ci := 1) (fs := [.int 0, .null, .null, .null, .null, .null, .null, .null, .null, .null, .null]) C zin_1 zy1 rfl zq81 zq82 zq32 nf_1 (Nat.le_of_ble_eq_true rfl) (Nat.le_of_ble_eq_true rfl) d_Village_init_38 (fun q38 => ?_)
  refine n_dup C d_Village_init_41 rfl ?_
  refine n_callIN (as := []) (rest := [.ref q38, .ref h]) C nl_Village_35 (c_Homes_init l G q38) rfl rfl (Nat.le_of_ble_eq_true rfl) ⟨(Nat.le_of_ble_eq_true rfl), (Nat.le_of_ble_eq_true rfl)⟩ ⟨(Nat.le_of_ble_eq_true rfl), (Nat.le_of_ble_eq_true rfl)⟩ d_Village_init_42 (fun f42 => ?_)
  refine n_putF (ty := .object "VillageWaves$Homes") C hname zin_7 zy7 zn7 rfl 5 (by decide) zq274 rfl rfl rfl (by decide +kernel) rfl rfl (Nat.le_of_ble_eq_true rfl) d_Village_init_45 ?_
  refine n_aload_n C d_Village_init_48 0 rfl rfl ?_
  refine n_new (ci := 6) (fs := [.int 0, .null, .null, .null, .null, .null, .null, .null, .null, .null]) C zin_6 zy6 rfl zq140 zq141 zq33 nf_6 (Nat.le_of_ble_eq_true rfl) (Nat.le_of_ble_eq_true rfl) d_Village_init_49 (fun q49 => ?_)
  refine n_dup C d_Village_init_52 rfl ?_
  refine n_callIN (as := []) (rest := [.ref q49, .ref h]) C nl_Village_42 (c_Tidings_init l G q49) rfl rfl (Nat.le_of_ble_eq_true rfl) ⟨(Nat.le_of_ble_eq_true rfl), (Nat.le_of_ble_eq_true rfl)⟩ ⟨(Nat.le_of_ble_eq_true rfl), (Nat.le_of_ble_eq_true rfl)⟩ d_Village_init_53 (fun f53 => ?_)
  refine n_putF (ty := .object "VillageWaves$Tidings") C hname zin_7 zy7 zn7 rfl 6 (by decide) zq276 rfl rfl rfl (by decide +kernel) rfl rfl (Nat.le_of_ble_eq_true rfl) d_Village_init_56 ?_
  refine n_aload_n C d_Village_init_59 0 rfl rfl ?_
  refine n_new (ci := 0) (fs := [.null, .null]) C zin_0 zy0 rfl zq196 zq197 zq34 nf_0 (Nat.le_of_ble_eq_true rfl) (Nat.le_of_ble_eq_true rfl) d_Village_init_60 (fun q60 => ?_)
  refine n_dup C d_Village_init_63 rfl ?_
  refine n_callIN (as := []) (rest := [.ref q60, .ref h]) C nl_Village_49 (c_Entries_init l G q60) rfl rfl (Nat.le_of_ble_eq_true rfl) ⟨(Nat.le_of_ble_eq_true rfl), (Nat.le_of_ble_eq_true rfl)⟩ ⟨(Nat.le_of_ble_eq_true rfl), (Nat.le_of_ble_eq_true rfl)⟩ d_Village_init_64 (fun f64 => ?_)
  refine n_putF (ty := .object "VillageWaves$Entries") C hname zin_7 zy7 zn7 rfl 7 (by decide) zq278 rfl rfl rfl (by decide +kernel) rfl rfl (Nat.le_of_ble_eq_true rfl) d_Village_init_67 ?_
  refine n_aload_n C d_Village_init_70 0 rfl rfl ?_
  refine n_new (ci := 0) (fs := [.null, .null]) C zin_0 zy0 rfl zq196 zq197 zq34 nf_0 (Nat.le_of_ble_eq_true rfl) (Nat.le_of_ble_eq_true rfl) d_Village_init_71 (fun q71 => ?_)
  refine n_dup C d_Village_init_74 rfl ?_
  refine n_callIN (as := []) (rest := [.ref q71, .ref h]) C nl_Village_49 (c_Entries_init l G q71) rfl rfl (Nat.le_of_ble_eq_true rfl) ⟨(Nat.le_of_ble_eq_true rfl), (Nat.le_of_ble_eq_true rfl)⟩ ⟨(Nat.le_of_ble_eq_true rfl), (Nat.le_of_ble_eq_true rfl)⟩ d_Village_init_75 (fun f75 => ?_)
  refine n_putF (ty := .object "VillageWaves$Entries") C hname zin_7 zy7 zn7 rfl 8 (by decide) zq280 rfl rfl rfl (by decide +kernel) rfl rfl (Nat.le_of_ble_eq_true rfl) d_Village_init_78 ?_
  refine n_aload_n C d_Village_init_81 0 rfl rfl ?_
  refine n_new (ci := 4) (fs := [.null]) C zin_4 zy4 rfl zq67 zq68 zq30 nf_4 (Nat.le_of_ble_eq_true rfl) (Nat.le_of_ble_eq_true rfl) d_Village_init_82 (fun q82 => ?_)
  refine n_dup C d_Village_init_85 rfl ?_
  refine n_sipush (v := 240) C d_Village_init_86 (by decide) ?_
  refine n_callI (as := [.int 240]) (rest := [.ref q82, .ref h]) C nl_Village_26 (c_Row_init l G q82 (n := 240) (N := 240) (by decide) (by decide) (by decide)) rfl rfl (Nat.le_of_ble_eq_true rfl) ⟨(Nat.le_of_ble_eq_true rfl), (Nat.le_of_ble_eq_true rfl)⟩ ⟨(Nat.le_of_ble_eq_true rfl), (Nat.le_of_ble_eq_true rfl)⟩ d_Village_init_89 (fun f89 => ?_)
  refine n_putF (ty := .object "VillageWaves$Row") C hname zin_7 zy7 zn7 rfl 9 (by decide) zq282 rfl rfl rfl (by decide +kernel) rfl rfl (Nat.le_of_ble_eq_true rfl) d_Village_init_92 ?_
  refine n_aload_n C d_Village_init_95 0 rfl rfl ?_
  refine n_new (ci := 4) (fs := [.null]) C zin_4 zy4 rfl zq67 zq68 zq30 nf_4 (Nat.le_of_ble_eq_true rfl) (Nat.le_of_ble_eq_true rfl) d_Village_init_96 (fun q96 => ?_)
  refine n_dup C d_Village_init_99 rfl ?_
  refine n_sipush (v := 240) C d_Village_init_100 (by decide) ?_
  refine n_callI (as := [.int 240]) (rest := [.ref q96, .ref h]) C nl_Village_26 (c_Row_init l G q96 (n := 240) (N := 240) (by decide) (by decide) (by decide)) rfl rfl (Nat.le_of_ble_eq_true rfl) ⟨(Nat.le_of_ble_eq_true rfl), (Nat.le_of_ble_eq_true rfl)⟩ ⟨(Nat.le_of_ble_eq_true rfl), (Nat.le_of_ble_eq_true rfl)⟩ d_Village_init_103 (fun f103 => ?_)
  refine n_putF (ty := .object "VillageWaves$Row") C hname zin_7 zy7 zn7 rfl 10 (by decide) zq284 rfl rfl rfl (by decide +kernel) rfl rfl (Nat.le_of_ble_eq_true rfl) d_Village_init_106 ?_
  refine n_aload_n C d_Village_init_109 0 rfl rfl ?_
  refine n_new (ci := 4) (fs := [.null]) C zin_4 zy4 rfl zq67 zq68 zq30 nf_4 (Nat.le_of_ble_eq_true rfl) (Nat.le_of_ble_eq_true rfl) d_Village_init_110 (fun q110 => ?_)
  refine n_dup C d_Village_init_113 rfl ?_
  refine n_sipush (v := 240) C d_Village_init_114 (by decide) ?_
  refine n_callI (as := [.int 240]) (rest := [.ref q110, .ref h]) C nl_Village_26 (c_Row_init l G q110 (n := 240) (N := 240) (by decide) (by decide) (by decide)) rfl rfl (Nat.le_of_ble_eq_true rfl) ⟨(Nat.le_of_ble_eq_true rfl), (Nat.le_of_ble_eq_true rfl)⟩ ⟨(Nat.le_of_ble_eq_true rfl), (Nat.le_of_ble_eq_true rfl)⟩ d_Village_init_117 (fun f117 => ?_)
  refine n_putF (ty := .object "VillageWaves$Row") C hname zin_7 zy7 zn7 rfl 11 (by decide) zq286 rfl rfl rfl (by decide +kernel) rfl rfl (Nat.le_of_ble_eq_true rfl) d_Village_init_120 ?_
  refine n_aload_n C d_Village_init_123 0 rfl rfl ?_
  refine n_new (ci := 2) (fs := [.int 0, .null]) C zin_2 zy2 rfl zq212 zq213 zq35 nf_2 (Nat.le_of_ble_eq_true rfl) (Nat.le_of_ble_eq_true rfl) d_Village_init_124 (fun q124 => ?_)
  refine n_dup C d_Village_init_127 rfl ?_
  refine n_callIN (as := []) (rest := [.ref q124, .ref h]) C nl_Village_68 (c_Journal_init l G q124) rfl rfl (Nat.le_of_ble_eq_true rfl) ⟨(Nat.le_of_ble_eq_true rfl), (Nat.le_of_ble_eq_true rfl)⟩ ⟨(Nat.le_of_ble_eq_true rfl), (Nat.le_of_ble_eq_true rfl)⟩ d_Village_init_128 (fun f128 => ?_)
  refine n_putF (ty := .object "VillageWaves$Journal") C hname zin_7 zy7 zn7 rfl 12 (by decide) zq287 rfl rfl rfl (by decide +kernel) rfl rfl (Nat.le_of_ble_eq_true rfl) d_Village_init_131 ?_
  refine n_aload_n C d_Village_init_134 0 rfl rfl ?_
  have C' : nCx (nG G v (nA h (fun i => ([q26, (f31 0), q38, (f42 0), (f42 1), (f42 2), (f42 3), (f42 4), (f42 5), (f42 6), (f42 7), (f42 8), (f42 9), (f42 10), (f42 11), (f42 12), (f42 13), (f42 14), (f42 15), (f42 16), (f42 17), (f42 18), (f42 19), q49, (f53 0), (f53 1), (f53 2), (f53 3), (f53 4), (f53 5), (f53 6), (f53 7), (f53 8), (f53 9), (f53 10), (f53 11), (f53 12), (f53 13), (f53 14), (f53 15), (f53 16), (f53 17), q60, (f64 0), (f64 1), (f64 2), (f64 3), q71, (f75 0), (f75 1), (f75 2), (f75 3), q82, (f89 0), q96, (f103 0), q110, (f117 0), q124, (f128 0), (f128 1)] : List Nat).getD i 0))) p s m args meth c "VillageWaves$Village" b_Village_init 1 none (va_A [(h, .inr (7, [.int 0, .int 0, .int 0, .int 0, .null, .null, .null, .null, .null, .null, .null, .null, .null]))] s.heap.size) := C
  refine n_ch (G' := nG G v (nA h (fun i => ([q26, (f31 0), q38, (f42 0), (f42 1), (f42 2), (f42 3), (f42 4), (f42 5), (f42 6), (f42 7), (f42 8), (f42 9), (f42 10), (f42 11), (f42 12), (f42 13), (f42 14), (f42 15), (f42 16), (f42 17), (f42 18), (f42 19), q49, (f53 0), (f53 1), (f53 2), (f53 3), (f53 4), (f53 5), (f53 6), (f53 7), (f53 8), (f53 9), (f53 10), (f53 11), (f53 12), (f53 13), (f53 14), (f53 15), (f53 16), (f53 17), q60, (f64 0), (f64 1), (f64 2), (f64 3), q71, (f75 0), (f75 1), (f75 2), (f75 3), q82, (f89 0), q96, (f103 0), q110, (f117 0), q124, (f128 0), (f128 1)] : List Nat).getD i 0))) (ws' := zwd (nG G v (nA h (fun i => ([q26, (f31 0), q38, (f42 0), (f42 1), (f42 2), (f42 3), (f42 4), (f42 5), (f42 6), (f42 7), (f42 8), (f42 9), (f42 10), (f42 11), (f42 12), (f42 13), (f42 14), (f42 15), (f42 16), (f42 17), (f42 18), (f42 19), q49, (f53 0), (f53 1), (f53 2), (f53 3), (f53 4), (f53 5), (f53 6), (f53 7), (f53 8), (f53 9), (f53 10), (f53 11), (f53 12), (f53 13), (f53 14), (f53 15), (f53 16), (f53 17), q60, (f64 0), (f64 1), (f64 2), (f64 3), q71, (f75 0), (f75 1), (f75 2), (f75 3), q82, (f89 0), q96, (f103 0), q110, (f117 0), q124, (f128 0), (f128 1)] : List Nat).getD i 0))) nσ0) (st' := [.ref (zad (nG G v (nA h (fun i => ([q26, (f31 0), q38, (f42 0), (f42 1), (f42 2), (f42 3), (f42 4), (f42 5), (f42 6), (f42 7), (f42 8), (f42 9), (f42 10), (f42 11), (f42 12), (f42 13), (f42 14), (f42 15), (f42 16), (f42 17), (f42 18), (f42 19), q49, (f53 0), (f53 1), (f53 2), (f53 3), (f53 4), (f53 5), (f53 6), (f53 7), (f53 8), (f53 9), (f53 10), (f53 11), (f53 12), (f53 13), (f53 14), (f53 15), (f53 16), (f53 17), q60, (f64 0), (f64 1), (f64 2), (f64 3), q71, (f75 0), (f75 1), (f75 2), (f75 3), q82, (f89 0), q96, (f103 0), q110, (f117 0), q124, (f128 0), (f128 1)] : List Nat).getD i 0))) v 0)]) rfl rfl rfl ?_
  refine n_callZ (as := []) (rest := []) C' (nvl_ok hv) nkl_Village_73 rfl (c_Village_clear (nG_vl G v _) hF) (nvl_in v 0 (by decide)) rfl rfl rfl (Nat.le_of_ble_eq_true rfl) ⟨(Nat.le_of_ble_eq_true rfl), (Nat.le_of_ble_eq_true rfl)⟩ ⟨(Nat.le_of_ble_eq_true rfl), (Nat.le_of_ble_eq_true rfl)⟩ d_Village_init_135 ?_
  refine n_ch (G' := G) rfl rfl rfl ?_
  exact n_ret C (fun i => ([q26, (f31 0), q38, (f42 0), (f42 1), (f42 2), (f42 3), (f42 4), (f42 5), (f42 6), (f42 7), (f42 8), (f42 9), (f42 10), (f42 11), (f42 12), (f42 13), (f42 14), (f42 15), (f42 16), (f42 17), (f42 18), (f42 19), q49, (f53 0), (f53 1), (f53 2), (f53 3), (f53 4), (f53 5), (f53 6), (f53 7), (f53 8), (f53 9), (f53 10), (f53 11), (f53 12), (f53 13), (f53 14), (f53 15), (f53 16), (f53 17), q60, (f64 0), (f64 1), (f64 2), (f64 3), q71, (f75 0), (f75 1), (f75 2), (f75 3), q82, (f89 0), q96, (f103 0), q110, (f117 0), q124, (f128 0), (f128 1)] : List Nat).getD i 0) rfl rfl (Nat.le_of_ble_eq_true rfl) (Nat.le_of_ble_eq_true rfl) d_Village_init_138
