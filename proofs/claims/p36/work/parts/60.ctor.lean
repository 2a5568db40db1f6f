abbrev b_Row_init : ByteArray := prog_6_method_1_code
abbrev y_Row_init : MethodName := ⟨"VillageWaves$Row", "<init>", "(I)V"⟩
theorem d_Row_init_0 : decode b_Row_init 0 = .ok (.aload_n 0, 1) := by decide +kernel
theorem d_Row_init_1 : decode b_Row_init 1 = .ok (.invokespecial 1, 3) := by decide +kernel
theorem d_Row_init_4 : decode b_Row_init 4 = .ok (.aload_n 0, 1) := by decide +kernel
theorem d_Row_init_5 : decode b_Row_init 5 = .ok (.iload_n 1, 1) := by decide +kernel
theorem d_Row_init_6 : decode b_Row_init 6 = .ok (.iconst 0, 1) := by decide +kernel
theorem d_Row_init_7 : decode b_Row_init 7 = .ok (.invokestatic 7, 3) := by decide +kernel
theorem d_Row_init_10 : decode b_Row_init 10 = .ok (.newarray .int, 2) := by decide +kernel
theorem d_Row_init_12 : decode b_Row_init 12 = .ok (.putfield 13, 3) := by decide +kernel
theorem d_Row_init_15 : decode b_Row_init 15 = .ok (.return_, 1) := by decide +kernel
theorem nf_4 : ∀ j, j < 1 → defaultValue (zt4 j) = vp_V ([.null] : List Value) j := fun j hj => by
  rcases (show j = 0 by omega) with rfl <;> rfl
set_option maxRecDepth 100000 in
theorem zq72 : (Cond.methodLink "VillageWaves$Row" 1 ⟨"java/lang/Object", "<init>", "()V"⟩ : Cond) ∈ zGW := zgw 72 (by rfl) (by rfl)
set_option maxRecDepth 100000 in
theorem zq53 : (Cond.instanceMethod ⟨"java/lang/Object", "<init>", "()V"⟩ : Cond) ∈ zGW := zgw 53 (by rfl) (by rfl)
set_option maxRecDepth 100000 in
theorem zq54 : (Cond.code ⟨"java/lang/Object", "<init>", "()V"⟩ object_method_1_code 1 none : Cond) ∈ zGW := zgw 54 (by rfl) (by rfl)
set_option maxRecDepth 100000 in
theorem zq73 : (Cond.methodLink "VillageWaves$Row" 7 ⟨"java/lang/Math", "max", "(II)I"⟩ : Cond) ∈ zGW := zgw 73 (by rfl) (by rfl)
set_option maxRecDepth 100000 in
theorem zq80 : (Cond.arrayClass .int : Cond) ∈ zGW := zgw 80 (by rfl) (by rfl)
abbrev rm_Row_init (N : Nat) : Room := { frames := 1, cells := 1, slots := N, locals := 40 }
def nw_Row (G : zLA) (N : Nat) (h : Nat) (q : Nat → Nat) : va_W := [(h, .inr (4, [.ref (q 0)])), (q 0, .inl (zaC G 0, N, .inl (fun _ => 0)))]
set_option maxRecDepth 20000 in
theorem c_Row_init (l : Launch) (G : zLA) (h : Nat) {n : Int32} {N : Nat} (hn : ¬ n < 0) (hN : n.toNatClampNeg = N) (hb : N ≤ 10000) : nM l G y_Row_init (zws y_Row_init b_Row_init 2 none) (rm_Row_init N) [.ref h, .int n] [(h, .inr (4, [.null]))] (nw_Row G N h) := by
  refine n_ofM (own := "VillageWaves$Row") (lv := [(0, .ref h), (1, .int n)]) (by decide) rfl rfl rfl (Nat.le_of_ble_eq_true rfl) (fun p e s m args below meth c C hname => ?_)
  refine n_aload_n C d_Row_init_0 0 rfl rfl ?_
  refine n_obj C zq72 zq53 zq54 (Nat.le_of_ble_eq_true rfl) (Nat.le_of_ble_eq_true rfl) d_Row_init_1 ?_
  refine n_aload_n C d_Row_init_4 0 rfl rfl ?_
  refine n_iload_n C d_Row_init_5 1 rfl rfl ?_
  refine n_iconst (v := 0) C d_Row_init_6 (by decide) ?_
  refine n_mmax C zq73 rfl (Nat.le_of_ble_eq_true rfl) (Nat.le_of_ble_eq_true rfl) (Nat.le_of_ble_eq_true rfl) (Nat.le_of_ble_eq_true rfl) (Nat.zero_le _) d_Row_init_7 ?_
  rw [if_neg hn]
  refine n_newa (at0 := .int) (ty := .int) (k0 := 0) (N := N) (a0 := (N, .inl (fun _ => 0))) C zq80 rfl (fun _ _ h => h) rfl (fun _ => rfl) hn hN (Nat.le_trans (Nat.mul_le_mul_right _ hb) (by decide)) (Nat.le_of_ble_eq_true rfl) (Nat.le_of_eq (Nat.zero_add N)) d_Row_init_10 (fun q10 => ?_)
  refine n_putF (ty := .array .int) C hname zin_4 zy4 zn4 rfl 0 (by decide) zq76 rfl rfl rfl (by decide +kernel) rfl rfl (Nat.le_of_ble_eq_true rfl) d_Row_init_12 ?_
  exact n_ret C (fun i => ([q10] : List Nat).getD i 0) rfl rfl (Nat.le_of_ble_eq_true rfl) (Nat.le_of_eq (Nat.zero_add N)) d_Row_init_15
abbrev b_Entries_init : ByteArray := prog_2_method_1_code
abbrev y_Entries_init : MethodName := ⟨"VillageWaves$Entries", "<init>", "()V"⟩
theorem d_Entries_init_0 : decode b_Entries_init 0 = .ok (.aload_n 0, 1) := by decide +kernel
theorem d_Entries_init_1 : decode b_Entries_init 1 = .ok (.invokespecial 3, 3) := by decide +kernel
theorem d_Entries_init_4 : decode b_Entries_init 4 = .ok (.aload_n 0, 1) := by decide +kernel
theorem d_Entries_init_5 : decode b_Entries_init 5 = .ok (.new 9, 3) := by decide +kernel
theorem d_Entries_init_8 : decode b_Entries_init 8 = .ok (.dup, 1) := by decide +kernel
theorem d_Entries_init_9 : decode b_Entries_init 9 = .ok (.bipush 12, 2) := by decide +kernel
theorem d_Entries_init_11 : decode b_Entries_init 11 = .ok (.invokespecial 11, 3) := by decide +kernel
theorem d_Entries_init_14 : decode b_Entries_init 14 = .ok (.putfield 14, 3) := by decide +kernel
theorem d_Entries_init_17 : decode b_Entries_init 17 = .ok (.aload_n 0, 1) := by decide +kernel
theorem d_Entries_init_18 : decode b_Entries_init 18 = .ok (.new 9, 3) := by decide +kernel
theorem d_Entries_init_21 : decode b_Entries_init 21 = .ok (.dup, 1) := by decide +kernel
theorem d_Entries_init_22 : decode b_Entries_init 22 = .ok (.sipush 240, 3) := by decide +kernel
theorem d_Entries_init_25 : decode b_Entries_init 25 = .ok (.invokespecial 11, 3) := by decide +kernel
theorem d_Entries_init_28 : decode b_Entries_init 28 = .ok (.putfield 20, 3) := by decide +kernel
theorem d_Entries_init_31 : decode b_Entries_init 31 = .ok (.return_, 1) := by decide +kernel
theorem nf_0 : ∀ j, j < 2 → defaultValue (zt0 j) = vp_V ([.null, .null] : List Value) j := fun j hj => by
  rcases (show j = 0 ∨ j = 1 by omega) with rfl | rfl <;> rfl
set_option maxRecDepth 100000 in
theorem zq201 : (Cond.methodLink "VillageWaves$Entries" 3 ⟨"java/lang/Object", "<init>", "()V"⟩ : Cond) ∈ zGW := zgw 201 (by rfl) (by rfl)
set_option maxRecDepth 100000 in
theorem zq202 : (Cond.classLink "VillageWaves$Entries" 9 "VillageWaves$Row" : Cond) ∈ zGW := zgw 202 (by rfl) (by rfl)
set_option maxRecDepth 100000 in
theorem zq68 : (Cond.instantiable "VillageWaves$Row" 1 : Cond) ∈ zGW := zgw 68 (by rfl) (by rfl)
set_option maxRecDepth 100000 in
theorem zq70 : (Cond.instanceMethod ⟨"VillageWaves$Row", "<init>", "(I)V"⟩ : Cond) ∈ zGW := zgw 70 (by rfl) (by rfl)
set_option maxRecDepth 100000 in
theorem zq71 : (Cond.code ⟨"VillageWaves$Row", "<init>", "(I)V"⟩ prog_6_method_1_code 2 none : Cond) ∈ zGW := zgw 71 (by rfl) (by rfl)
set_option maxRecDepth 100000 in
theorem zq203 : (Cond.methodLink "VillageWaves$Entries" 11 ⟨"VillageWaves$Row", "<init>", "(I)V"⟩ : Cond) ∈ zGW := zgw 203 (by rfl) (by rfl)
theorem nl_Entries_11 : nLI "VillageWaves$Entries" 11 y_Row_init b_Row_init 2 1 := ⟨zq203, zq70, zq30, zq71, rfl, ⟨by decide, by decide, by decide +kernel⟩⟩
abbrev rm_Entries_init : Room := { frames := 2, cells := 4, slots := 254, locals := 64 }
def nw_Entries (G : zLA) (h : Nat) (q : Nat → Nat) : va_W := [(h, .inr (0, [.ref (q 0), .ref (q 2)])), (q 0, .inr (4, [.ref (q 1)])), (q 1, .inl (zaC G 0, 12, .inl (fun _ => 0))), (q 2, .inr (4, [.ref (q 3)])), (q 3, .inl (zaC G 0, 240, .inl (fun _ => 0)))]
set_option maxRecDepth 20000 in
theorem c_Entries_init (l : Launch) (G : zLA) (h : Nat) : nM l G y_Entries_init (zws y_Entries_init b_Entries_init 1 none) (rm_Entries_init) [.ref h] [(h, .inr (0, [.null, .null]))] (nw_Entries G h) := by
  refine n_ofM (own := "VillageWaves$Entries") (lv := [(0, .ref h)]) (by decide) rfl rfl rfl (Nat.le_of_ble_eq_true rfl) (fun p e s m args below meth c C hname => ?_)
  refine n_aload_n C d_Entries_init_0 0 rfl rfl ?_
  refine n_obj C zq201 zq53 zq54 (Nat.le_of_ble_eq_true rfl) (Nat.le_of_ble_eq_true rfl) d_Entries_init_1 ?_
  refine n_aload_n C d_Entries_init_4 0 rfl rfl ?_
  refine n_new (ci := 4) (fs := [.null]) C zin_4 zy4 rfl zq202 zq68 zq30 nf_4 (Nat.le_of_ble_eq_true rfl) (Nat.le_of_ble_eq_true rfl) d_Entries_init_5 (fun q5 => ?_)
  refine n_dup C d_Entries_init_8 rfl ?_
  refine n_bipush (v := 12) C d_Entries_init_9 (by decide) ?_
  refine n_callI (as := [.int 12]) (rest := [.ref q5, .ref h]) C nl_Entries_11 (c_Row_init l G q5 (n := 12) (N := 12) (by decide) (by decide) (by decide)) rfl rfl (Nat.le_of_ble_eq_true rfl) ⟨(Nat.le_of_ble_eq_true rfl), (Nat.le_of_ble_eq_true rfl)⟩ ⟨(Nat.le_of_ble_eq_true rfl), (Nat.le_of_ble_eq_true rfl)⟩ d_Entries_init_11 (fun f11 => ?_)
  refine n_putF (ty := .object "VillageWaves$Row") C hname zin_0 zy0 zn0 rfl 0 (by decide) zq204 rfl rfl rfl (by decide +kernel) rfl rfl (Nat.le_of_ble_eq_true rfl) d_Entries_init_14 ?_
  refine n_aload_n C d_Entries_init_17 0 rfl rfl ?_
  refine n_new (ci := 4) (fs := [.null]) C zin_4 zy4 rfl zq202 zq68 zq30 nf_4 (Nat.le_of_ble_eq_true rfl) (Nat.le_of_ble_eq_true rfl) d_Entries_init_18 (fun q18 => ?_)
  refine n_dup C d_Entries_init_21 rfl ?_
  refine n_sipush (v := 240) C d_Entries_init_22 (by decide) ?_
  refine n_callI (as := [.int 240]) (rest := [.ref q18, .ref h]) C nl_Entries_11 (c_Row_init l G q18 (n := 240) (N := 240) (by decide) (by decide) (by decide)) rfl rfl (Nat.le_of_ble_eq_true rfl) ⟨(Nat.le_of_ble_eq_true rfl), (Nat.le_of_ble_eq_true rfl)⟩ ⟨(Nat.le_of_ble_eq_true rfl), (Nat.le_of_ble_eq_true rfl)⟩ d_Entries_init_25 (fun f25 => ?_)
  refine n_putF (ty := .object "VillageWaves$Row") C hname zin_0 zy0 zn0 rfl 1 (by decide) zq206 rfl rfl rfl (by decide +kernel) rfl rfl (Nat.le_of_ble_eq_true rfl) d_Entries_init_28 ?_
  exact n_ret C (fun i => ([q5, (f11 0), q18, (f25 0)] : List Nat).getD i 0) rfl rfl (Nat.le_of_ble_eq_true rfl) (Nat.le_of_ble_eq_true rfl) d_Entries_init_31
abbrev b_Homes_init : ByteArray := prog_3_method_1_code
abbrev y_Homes_init : MethodName := ⟨"VillageWaves$Homes", "<init>", "()V"⟩
theorem d_Homes_init_0 : decode b_Homes_init 0 = .ok (.aload_n 0, 1) := by decide +kernel
theorem d_Homes_init_1 : decode b_Homes_init 1 = .ok (.invokespecial 3, 3) := by decide +kernel
theorem d_Homes_init_4 : decode b_Homes_init 4 = .ok (.aload_n 0, 1) := by decide +kernel
theorem d_Homes_init_5 : decode b_Homes_init 5 = .ok (.iconst 0, 1) := by decide +kernel
theorem d_Homes_init_6 : decode b_Homes_init 6 = .ok (.putfield 9, 3) := by decide +kernel
theorem d_Homes_init_9 : decode b_Homes_init 9 = .ok (.aload_n 0, 1) := by decide +kernel
theorem d_Homes_init_10 : decode b_Homes_init 10 = .ok (.new 15, 3) := by decide +kernel
theorem d_Homes_init_13 : decode b_Homes_init 13 = .ok (.dup, 1) := by decide +kernel
theorem d_Homes_init_14 : decode b_Homes_init 14 = .ok (.bipush 12, 2) := by decide +kernel
theorem d_Homes_init_16 : decode b_Homes_init 16 = .ok (.invokespecial 17, 3) := by decide +kernel
theorem d_Homes_init_19 : decode b_Homes_init 19 = .ok (.putfield 20, 3) := by decide +kernel
theorem d_Homes_init_22 : decode b_Homes_init 22 = .ok (.aload_n 0, 1) := by decide +kernel
theorem d_Homes_init_23 : decode b_Homes_init 23 = .ok (.new 15, 3) := by decide +kernel
theorem d_Homes_init_26 : decode b_Homes_init 26 = .ok (.dup, 1) := by decide +kernel
theorem d_Homes_init_27 : decode b_Homes_init 27 = .ok (.bipush 12, 2) := by decide +kernel
theorem d_Homes_init_29 : decode b_Homes_init 29 = .ok (.invokespecial 17, 3) := by decide +kernel
theorem d_Homes_init_32 : decode b_Homes_init 32 = .ok (.putfield 24, 3) := by decide +kernel
theorem d_Homes_init_35 : decode b_Homes_init 35 = .ok (.aload_n 0, 1) := by decide +kernel
theorem d_Homes_init_36 : decode b_Homes_init 36 = .ok (.new 15, 3) := by decide +kernel
theorem d_Homes_init_39 : decode b_Homes_init 39 = .ok (.dup, 1) := by decide +kernel
theorem d_Homes_init_40 : decode b_Homes_init 40 = .ok (.bipush 12, 2) := by decide +kernel
theorem d_Homes_init_42 : decode b_Homes_init 42 = .ok (.invokespecial 17, 3) := by decide +kernel
theorem d_Homes_init_45 : decode b_Homes_init 45 = .ok (.putfield 27, 3) := by decide +kernel
theorem d_Homes_init_48 : decode b_Homes_init 48 = .ok (.aload_n 0, 1) := by decide +kernel
theorem d_Homes_init_49 : decode b_Homes_init 49 = .ok (.new 15, 3) := by decide +kernel
theorem d_Homes_init_52 : decode b_Homes_init 52 = .ok (.dup, 1) := by decide +kernel
theorem d_Homes_init_53 : decode b_Homes_init 53 = .ok (.bipush 12, 2) := by decide +kernel
theorem d_Homes_init_55 : decode b_Homes_init 55 = .ok (.invokespecial 17, 3) := by decide +kernel
theorem d_Homes_init_58 : decode b_Homes_init 58 = .ok (.putfield 30, 3) := by decide +kernel
theorem d_Homes_init_61 : decode b_Homes_init 61 = .ok (.aload_n 0, 1) := by decide +kernel
theorem d_Homes_init_62 : decode b_Homes_init 62 = .ok (.new 15, 3) := by decide +kernel
theorem d_Homes_init_65 : decode b_Homes_init 65 = .ok (.dup, 1) := by decide +kernel
theorem d_Homes_init_66 : decode b_Homes_init 66 = .ok (.bipush 12, 2) := by decide +kernel
theorem d_Homes_init_68 : decode b_Homes_init 68 = .ok (.invokespecial 17, 3) := by decide +kernel
theorem d_Homes_init_71 : decode b_Homes_init 71 = .ok (.putfield 33, 3) := by decide +kernel
theorem d_Homes_init_74 : decode b_Homes_init 74 = .ok (.aload_n 0, 1) := by decide +kernel
theorem d_Homes_init_75 : decode b_Homes_init 75 = .ok (.new 15, 3) := by decide +kernel
theorem d_Homes_init_78 : decode b_Homes_init 78 = .ok (.dup, 1) := by decide +kernel
theorem d_Homes_init_79 : decode b_Homes_init 79 = .ok (.bipush 12, 2) := by decide +kernel
theorem d_Homes_init_81 : decode b_Homes_init 81 = .ok (.invokespecial 17, 3) := by decide +kernel
theorem d_Homes_init_84 : decode b_Homes_init 84 = .ok (.putfield 36, 3) := by decide +kernel
theorem d_Homes_init_87 : decode b_Homes_init 87 = .ok (.aload_n 0, 1) := by decide +kernel
theorem d_Homes_init_88 : decode b_Homes_init 88 = .ok (.new 15, 3) := by decide +kernel
theorem d_Homes_init_91 : decode b_Homes_init 91 = .ok (.dup, 1) := by decide +kernel
theorem d_Homes_init_92 : decode b_Homes_init 92 = .ok (.bipush 12, 2) := by decide +kernel
theorem d_Homes_init_94 : decode b_Homes_init 94 = .ok (.invokespecial 17, 3) := by decide +kernel
theorem d_Homes_init_97 : decode b_Homes_init 97 = .ok (.putfield 39, 3) := by decide +kernel
theorem d_Homes_init_100 : decode b_Homes_init 100 = .ok (.aload_n 0, 1) := by decide +kernel
theorem d_Homes_init_101 : decode b_Homes_init 101 = .ok (.new 15, 3) := by decide +kernel
theorem d_Homes_init_104 : decode b_Homes_init 104 = .ok (.dup, 1) := by decide +kernel
theorem d_Homes_init_105 : decode b_Homes_init 105 = .ok (.bipush 12, 2) := by decide +kernel
theorem d_Homes_init_107 : decode b_Homes_init 107 = .ok (.invokespecial 17, 3) := by decide +kernel
theorem d_Homes_init_110 : decode b_Homes_init 110 = .ok (.putfield 42, 3) := by decide +kernel
theorem d_Homes_init_113 : decode b_Homes_init 113 = .ok (.aload_n 0, 1) := by decide +kernel
theorem d_Homes_init_114 : decode b_Homes_init 114 = .ok (.new 15, 3) := by decide +kernel
theorem d_Homes_init_117 : decode b_Homes_init 117 = .ok (.dup, 1) := by decide +kernel
theorem d_Homes_init_118 : decode b_Homes_init 118 = .ok (.bipush 12, 2) := by decide +kernel
theorem d_Homes_init_120 : decode b_Homes_init 120 = .ok (.invokespecial 17, 3) := by decide +kernel
theorem d_Homes_init_123 : decode b_Homes_init 123 = .ok (.putfield 45, 3) := by decide +kernel
theorem d_Homes_init_126 : decode b_Homes_init 126 = .ok (.aload_n 0, 1) := by decide +kernel
theorem d_Homes_init_127 : decode b_Homes_init 127 = .ok (.new 15, 3) := by decide +kernel
theorem d_Homes_init_130 : decode b_Homes_init 130 = .ok (.dup, 1) := by decide +kernel
theorem d_Homes_init_131 : decode b_Homes_init 131 = .ok (.bipush 12, 2) := by decide +kernel
theorem d_Homes_init_133 : decode b_Homes_init 133 = .ok (.invokespecial 17, 3) := by decide +kernel
theorem d_Homes_init_136 : decode b_Homes_init 136 = .ok (.putfield 48, 3) := by decide +kernel
theorem d_Homes_init_139 : decode b_Homes_init 139 = .ok (.return_, 1) := by decide +kernel
theorem nf_1 : ∀ j, j < 11 → defaultValue (zt1 j) = vp_V ([.int 0, .null, .null, .null, .null, .null, .null, .null, .null, .null, .null] : List Value) j := fun j hj => by
  rcases (show j = 0 ∨ j = 1 ∨ j = 2 ∨ j = 3 ∨ j = 4 ∨ j = 5 ∨ j = 6 ∨ j = 7 ∨ j = 8 ∨ j = 9 ∨ j = 10 by omega) with rfl | rfl | rfl | rfl | rfl | rfl | rfl | rfl | rfl | rfl | rfl <;> rfl
set_option maxRecDepth 100000 in
theorem zq86 : (Cond.methodLink "VillageWaves$Homes" 3 ⟨"java/lang/Object", "<init>", "()V"⟩ : Cond) ∈ zGW := zgw 86 (by rfl) (by rfl)
set_option maxRecDepth 100000 in
theorem zq87 : (Cond.classLink "VillageWaves$Homes" 15 "VillageWaves$Row" : Cond) ∈ zGW := zgw 87 (by rfl) (by rfl)
set_option maxRecDepth 100000 in
theorem zq88 : (Cond.methodLink "VillageWaves$Homes" 17 ⟨"VillageWaves$Row", "<init>", "(I)V"⟩ : Cond) ∈ zGW := zgw 88 (by rfl) (by rfl)
theorem nl_Homes_17 : nLI "VillageWaves$Homes" 17 y_Row_init b_Row_init 2 1 := ⟨zq88, zq70, zq30, zq71, rfl, ⟨by decide, by decide, by decide +kernel⟩⟩
abbrev rm_Homes_init : Room := { frames := 2, cells := 20, slots := 130, locals := 64 }
def nw_Homes (G : zLA) (h : Nat) (q : Nat → Nat) : va_W := [(h, .inr (1, [.int 0, .ref (q 0), .ref (q 2), .ref (q 4), .ref (q 6), .ref (q 8), .ref (q 10), .ref (q 12), .ref (q 14), .ref (q 16), .ref (q 18)])), (q 0, .inr (4, [.ref (q 1)])), (q 1, .inl (zaC G 0, 12, .inl (fun _ => 0))), (q 2, .inr (4, [.ref (q 3)])), (q 3, .inl (zaC G 0, 12, .inl (fun _ => 0))), (q 4, .inr (4, [.ref (q 5)])), (q 5, .inl (zaC G 0, 12, .inl (fun _ => 0))), (q 6, .inr (4, [.ref (q 7)])), (q 7, .inl (zaC G 0, 12, .inl (fun _ => 0))), (q 8, .inr (4, [.ref (q 9)])), (q 9, .inl (zaC G 0, 12, .inl (fun _ => 0))), (q 10, .inr (4, [.ref (q 11)])), (q 11, .inl (zaC G 0, 12, .inl (fun _ => 0))), (q 12, .inr (4, [.ref (q 13)])), (q 13, .inl (zaC G 0, 12, .inl (fun _ => 0))), (q 14, .inr (4, [.ref (q 15)])), (q 15, .inl (zaC G 0, 12, .inl (fun _ => 0))), (q 16, .inr (4, [.ref (q 17)])), (q 17, .inl (zaC G 0, 12, .inl (fun _ => 0))), (q 18, .inr (4, [.ref (q 19)])), (q 19, .inl (zaC G 0, 12, .inl (fun _ => 0)))]
set_option maxRecDepth 20000 in
theorem c_Homes_init (l : Launch) (G : zLA) (h : Nat) : nM l G y_Homes_init (zws y_Homes_init b_Homes_init 1 none) (rm_Homes_init) [.ref h] [(h, .inr (1, [.int 0, .null, .null, .null, .null, .null, .null, .null, .null, .null, .null]))] (nw_Homes G h) := by
  refine n_ofM (own := "VillageWaves$Homes") (lv := [(0, .ref h)]) (by decide) rfl rfl rfl (Nat.le_of_ble_eq_true rfl) (fun p e s m args below meth c C hname => ?_)
  refine n_aload_n C d_Homes_init_0 0 rfl rfl ?_
  refine n_obj C zq86 zq53 zq54 (Nat.le_of_ble_eq_true rfl) (Nat.le_of_ble_eq_true rfl) d_Homes_init_1 ?_
  refine n_aload_n C d_Homes_init_4 0 rfl rfl ?_
  refine n_iconst (v := 0) C d_Homes_init_5 (by decide) ?_
  refine n_put C zin_1 zy1 zn1 rfl 0 (by decide) zq89 rfl rfl (by decide +kernel) (Nat.le_of_ble_eq_true rfl) d_Homes_init_6 ?_
  refine n_aload_n C d_Homes_init_9 0 rfl rfl ?_
  refine n_new (ci := 4) (fs := [.null]) C zin_4 zy4 rfl zq87 zq68 zq30 nf_4 (Nat.le_of_ble_eq_true rfl) (Nat.le_of_ble_eq_true rfl) d_Homes_init_10 (fun q10 => ?_)
  refine n_dup C d_Homes_init_13 rfl ?_
  refine n_bipush (v := 12) C d_Homes_init_14 (by decide) ?_
  refine n_callI (as := [.int 12]) (rest := [.ref q10, .ref h]) C nl_Homes_17 (c_Row_init l G q10 (n := 12) (N := 12) (by decide) (by decide) (by decide)) rfl rfl (Nat.le_of_ble_eq_true rfl) ⟨(Nat.le_of_ble_eq_true rfl), (Nat.le_of_ble_eq_true rfl)⟩ ⟨(Nat.le_of_ble_eq_true rfl), (Nat.le_of_ble_eq_true rfl)⟩ d_Homes_init_16 (fun f16 => ?_)
  refine n_putF (ty := .object "VillageWaves$Row") C hname zin_1 zy1 zn1 rfl 1 (by decide) zq92 rfl rfl rfl (by decide +kernel) rfl rfl (Nat.le_of_ble_eq_true rfl) d_Homes_init_19 ?_
  refine n_aload_n C d_Homes_init_22 0 rfl rfl ?_
  refine n_new (ci := 4) (fs := [.null]) C zin_4 zy4 rfl zq87 zq68 zq30 nf_4 (Nat.le_of_ble_eq_true rfl) (Nat.le_of_ble_eq_true rfl) d_Homes_init_23 (fun q23 => ?_)
  refine n_dup C d_Homes_init_26 rfl ?_
  refine n_bipush (v := 12) C d_Homes_init_27 (by decide) ?_
  refine n_callI (as := [.int 12]) (rest := [.ref q23, .ref h]) C nl_Homes_17 (c_Row_init l G q23 (n := 12) (N := 12) (by decide) (by decide) (by decide)) rfl rfl (Nat.le_of_ble_eq_true rfl) ⟨(Nat.le_of_ble_eq_true rfl), (Nat.le_of_ble_eq_true rfl)⟩ ⟨(Nat.le_of_ble_eq_true rfl), (Nat.le_of_ble_eq_true rfl)⟩ d_Homes_init_29 (fun f29 => ?_)
  refine n_putF (ty := .object "VillageWaves$Row") C hname zin_1 zy1 zn1 rfl 2 (by decide) zq94 rfl rfl rfl (by decide +kernel) rfl rfl (Nat.le_of_ble_eq_true rfl) d_Homes_init_32 ?_
  refine n_aload_n C d_Homes_init_35 0 rfl rfl ?_
  refine n_new (ci := 4) (fs := [.null]) C zin_4 zy4 rfl zq87 zq68 zq30 nf_4 (Nat.le_of_ble_eq_true rfl) (Nat.le_of_ble_eq_true rfl) d_Homes_init_36 (fun q36 => ?_)
  refine n_dup C d_Homes_init_39 rfl ?_
  refine n_bipush (v := 12) C d_Homes_init_40 (by decide) ?_
  refine n_callI (as := [.int 12]) (rest := [.ref q36, .ref h]) C nl_Homes_17 (c_Row_init l G q36 (n := 12) (N := 12) (by decide) (by decide) (by decide)) rfl rfl (Nat.le_of_ble_eq_true rfl) ⟨(Nat.le_of_ble_eq_true rfl), (Nat.le_of_ble_eq_true rfl)⟩ ⟨(Nat.le_of_ble_eq_true rfl), (Nat.le_of_ble_eq_true rfl)⟩ d_Homes_init_42 (fun f42 => ?_)
  refine n_putF (ty := .object "VillageWaves$Row") C hname zin_1 zy1 zn1 rfl 3 (by decide) zq96 rfl rfl rfl (by decide +kernel) rfl rfl (Nat.le_of_ble_eq_true rfl) d_Homes_init_45 ?_
  refine n_aload_n C d_Homes_init_48 0 rfl rfl ?_
  refine n_new (ci := 4) (fs := [.null]) C zin_4 zy4 rfl zq87 zq68 zq30 nf_4 (Nat.le_of_ble_eq_true rfl) (Nat.le_of_ble_eq_true rfl) d_Homes_init_49 (fun q49 => ?_)
  refine n_dup C d_Homes_init_52 rfl ?_
  refine n_bipush (v := 12) C d_Homes_init_53 (by decide) ?_
  refine n_callI (as := [.int 12]) (rest := [.ref q49, .ref h]) C nl_Homes_17 (c_Row_init l G q49 (n := 12) (N := 12) (by decide) (by decide) (by decide)) rfl rfl (Nat.le_of_ble_eq_true rfl) ⟨(Nat.le_of_ble_eq_true rfl), (Nat.le_of_ble_eq_true rfl)⟩ ⟨(Nat.le_of_ble_eq_true rfl), (Nat.le_of_ble_eq_true rfl)⟩ d_Homes_init_55 (fun f55 => ?_)
  refine n_putF (ty := .object "VillageWaves$Row") C hname zin_1 zy1 zn1 rfl 4 (by decide) zq98 rfl rfl rfl (by decide +kernel) rfl rfl (Nat.le_of_ble_eq_true rfl) d_Homes_init_58 ?_
  refine n_aload_n C d_Homes_init_61 0 rfl rfl ?_
  refine n_new (ci := 4) (fs := [.null]) C zin_4 zy4 rfl zq87 zq68 zq30 nf_4 (Nat.le_of_ble_eq_true rfl) (Nat.le_of_ble_eq_true rfl) d_Homes_init_62 (fun q62 => ?_)
  refine n_dup C d_Homes_init_65 rfl ?_
  refine n_bipush (v := 12) C d_Homes_init_66 (by decide) ?_
  refine n_callI (as := [.int 12]) (rest := [.ref q62, .ref h]) C nl_Homes_17 (c_Row_init l G q62 (n := 12) (N := 12) (by decide) (by decide) (by decide)) rfl rfl (Nat.le_of_ble_eq_true rfl) ⟨(Nat.le_of_ble_eq_true rfl), (Nat.le_of_ble_eq_true rfl)⟩ ⟨(Nat.le_of_ble_eq_true rfl), (Nat.le_of_ble_eq_true rfl)⟩ d_Homes_init_68 (fun f68 => ?_)
  refine n_putF (ty := .object "VillageWaves$Row") C hname zin_1 zy1 zn1 rfl 5 (by decide) zq101 rfl rfl rfl (by decide +kernel) rfl rfl (Nat.le_of_ble_eq_true rfl) d_Homes_init_71 ?_
  refine n_aload_n C d_Homes_init_74 0 rfl rfl ?_
  refine n_new (ci := 4) (fs := [.null]) C zin_4 zy4 rfl zq87 zq68 zq30 nf_4 (Nat.le_of_ble_eq_true rfl) (Nat.le_of_ble_eq_true rfl) d_Homes_init_75 (fun q75 => ?_)
  refine n_dup C d_Homes_init_78 rfl ?_
  refine n_bipush (v := 12) C d_Homes_init_79 (by decide) ?_
  refine n_callI (as := [.int 12]) (rest := [.ref q75, .ref h]) C nl_Homes_17 (c_Row_init l G q75 (n := 12) (N := 12) (by decide) (by decide) (by decide)) rfl rfl (Nat.le_of_ble_eq_true rfl) ⟨(Nat.le_of_ble_eq_true rfl), (Nat.le_of_ble_eq_true rfl)⟩ ⟨(Nat.le_of_ble_eq_true rfl), (Nat.le_of_ble_eq_true rfl)⟩ d_Homes_init_81 (fun f81 => ?_)
  refine n_putF (ty := .object "VillageWaves$Row") C hname zin_1 zy1 zn1 rfl 6 (by decide) zq104 rfl rfl rfl (by decide +kernel) rfl rfl (Nat.le_of_ble_eq_true rfl) d_Homes_init_84 ?_
  refine n_aload_n C d_Homes_init_87 0 rfl rfl ?_
  refine n_new (ci := 4) (fs := [.null]) C zin_4 zy4 rfl zq87 zq68 zq30 nf_4 (Nat.le_of_ble_eq_true rfl) (Nat.le_of_ble_eq_true rfl) d_Homes_init_88 (fun q88 => ?_)
  refine n_dup C d_Homes_init_91 rfl ?_
  refine n_bipush (v := 12) C d_Homes_init_92 (by decide) ?_
  refine n_callI (as := [.int 12]) (rest := [.ref q88, .ref h]) C nl_Homes_17 (c_Row_init l G q88 (n := 12) (N := 12) (by decide) (by decide) (by decide)) rfl rfl (Nat.le_of_ble_eq_true rfl) ⟨(Nat.le_of_ble_eq_true rfl), (Nat.le_of_ble_eq_true rfl)⟩ ⟨(Nat.le_of_ble_eq_true rfl), (Nat.le_of_ble_eq_true rfl)⟩ d_Homes_init_94 (fun f94 => ?_)
  refine n_putF (ty := .object "VillageWaves$Row") C hname zin_1 zy1 zn1 rfl 7 (by decide) zq106 rfl rfl rfl (by decide +kernel) rfl rfl (Nat.le_of_ble_eq_true rfl) d_Homes_init_97 ?_
  refine n_aload_n C d_Homes_init_100 0 rfl rfl ?_
  refine n_new (ci := 4) (fs := [.null]) C zin_4 zy4 rfl zq87 zq68 zq30 nf_4 (Nat.le_of_ble_eq_true rfl) (Nat.le_of_ble_eq_true rfl) d_Homes_init_101 (fun q101 => ?_)
  refine n_dup C d_Homes_init_104 rfl ?_
  refine n_bipush (v := 12) C d_Homes_init_105 (by decide) ?_
  refine n_callI (as := [.int 12]) (rest := [.ref q101, .ref h]) C nl_Homes_17 (c_Row_init l G q101 (n := 12) (N := 12) (by decide) (by decide) (by decide)) rfl rfl (Nat.le_of_ble_eq_true rfl) ⟨(Nat.le_of_ble_eq_true rfl), (Nat.le_of_ble_eq_true rfl)⟩ ⟨(Nat.le_of_ble_eq_true rfl), (Nat.le_of_ble_eq_true rfl)⟩ d_Homes_init_107 (fun f107 => ?_)
  refine n_putF (ty := .object "VillageWaves$Row") C hname zin_1 zy1 zn1 rfl 8 (by decide) zq108 rfl rfl rfl (by decide +kernel) rfl rfl (Nat.le_of_ble_eq_true rfl) d_Homes_init_110 ?_
  refine n_aload_n C d_Homes_init_113 0 rfl rfl ?_
  refine n_new (ci := 4) (fs := [.null]) C zin_4 zy4 rfl zq87 zq68 zq30 nf_4 (Nat.le_of_ble_eq_true rfl) (Nat.le_of_ble_eq_true rfl) d_Homes_init_114 (fun q114 => ?_)
  refine n_dup C d_Homes_init_117 rfl ?_
  refine n_bipush (v := 12) C d_Homes_init_118 (by decide) ?_
  refine n_callI (as := [.int 12]) (rest := [.ref q114, .ref h]) C nl_Homes_17 (c_Row_init l G q114 (n := 12) (N := 12) (by decide) (by decide) (by decide)) rfl rfl (Nat.le_of_ble_eq_true rfl) ⟨(Nat.le_of_ble_eq_true rfl), (Nat.le_of_ble_eq_true rfl)⟩ ⟨(Nat.le_of_ble_eq_true rfl), (Nat.le_of_ble_eq_true rfl)⟩ d_Homes_init_120 (fun f120 => ?_)
  refine n_putF (ty := .object "VillageWaves$Row") C hname zin_1 zy1 zn1 rfl 9 (by decide) zq111 rfl rfl rfl (by decide +kernel) rfl rfl (Nat.le_of_ble_eq_true rfl) d_Homes_init_123 ?_
  refine n_aload_n C d_Homes_init_126 0 rfl rfl ?_
  refine n_new (ci := 4) (fs := [.null]) C zin_4 zy4 rfl zq87 zq68 zq30 nf_4 (Nat.le_of_ble_eq_true rfl) (Nat.le_of_ble_eq_true rfl) d_Homes_init_127 (fun q127 => ?_)
  refine n_dup C d_Homes_init_130 rfl ?_
  refine n_bipush (v := 12) C d_Homes_init_131 (by decide) ?_
  refine n_callI (as := [.int 12]) (rest := [.ref q127, .ref h]) C nl_Homes_17 (c_Row_init l G q127 (n := 12) (N := 12) (by decide) (by decide) (by decide)) rfl rfl (Nat.le_of_ble_eq_true rfl) ⟨(Nat.le_of_ble_eq_true rfl), (Nat.le_of_ble_eq_true rfl)⟩ ⟨(Nat.le_of_ble_eq_true rfl), (Nat.le_of_ble_eq_true rfl)⟩ d_Homes_init_133 (fun f133 => ?_)
  refine n_putF (ty := .object "VillageWaves$Row") C hname zin_1 zy1 zn1 rfl 10 (by decide) zq114 rfl rfl rfl (by decide +kernel) rfl rfl (Nat.le_of_ble_eq_true rfl) d_Homes_init_136 ?_
  exact n_ret C (fun i => ([q10, (f16 0), q23, (f29 0), q36, (f42 0), q49, (f55 0), q62, (f68 0), q75, (f81 0), q88, (f94 0), q101, (f107 0), q114, (f120 0), q127, (f133 0)] : List Nat).getD i 0) rfl rfl (Nat.le_of_ble_eq_true rfl) (Nat.le_of_ble_eq_true rfl) d_Homes_init_139
abbrev b_Journal_init : ByteArray := prog_4_method_1_code
abbrev y_Journal_init : MethodName := ⟨"VillageWaves$Journal", "<init>", "()V"⟩
theorem d_Journal_init_0 : decode b_Journal_init 0 = .ok (.aload_n 0, 1) := by decide +kernel
theorem d_Journal_init_1 : decode b_Journal_init 1 = .ok (.invokespecial 3, 3) := by decide +kernel
theorem d_Journal_init_4 : decode b_Journal_init 4 = .ok (.aload_n 0, 1) := by decide +kernel
theorem d_Journal_init_5 : decode b_Journal_init 5 = .ok (.iconst 0, 1) := by decide +kernel
theorem d_Journal_init_6 : decode b_Journal_init 6 = .ok (.putfield 9, 3) := by decide +kernel
theorem d_Journal_init_9 : decode b_Journal_init 9 = .ok (.aload_n 0, 1) := by decide +kernel
theorem d_Journal_init_10 : decode b_Journal_init 10 = .ok (.new 15, 3) := by decide +kernel
theorem d_Journal_init_13 : decode b_Journal_init 13 = .ok (.dup, 1) := by decide +kernel
theorem d_Journal_init_14 : decode b_Journal_init 14 = .ok (.sipush 180, 3) := by decide +kernel
theorem d_Journal_init_17 : decode b_Journal_init 17 = .ok (.invokespecial 17, 3) := by decide +kernel
theorem d_Journal_init_20 : decode b_Journal_init 20 = .ok (.putfield 20, 3) := by decide +kernel
theorem d_Journal_init_23 : decode b_Journal_init 23 = .ok (.return_, 1) := by decide +kernel
theorem nf_2 : ∀ j, j < 2 → defaultValue (zt2 j) = vp_V ([.int 0, .null] : List Value) j := fun j hj => by
  rcases (show j = 0 ∨ j = 1 by omega) with rfl | rfl <;> rfl
set_option maxRecDepth 100000 in
theorem zq217 : (Cond.methodLink "VillageWaves$Journal" 3 ⟨"java/lang/Object", "<init>", "()V"⟩ : Cond) ∈ zGW := zgw 217 (by rfl) (by rfl)
set_option maxRecDepth 100000 in
theorem zq218 : (Cond.classLink "VillageWaves$Journal" 15 "VillageWaves$Row" : Cond) ∈ zGW := zgw 218 (by rfl) (by rfl)
set_option maxRecDepth 100000 in
theorem zq219 : (Cond.methodLink "VillageWaves$Journal" 17 ⟨"VillageWaves$Row", "<init>", "(I)V"⟩ : Cond) ∈ zGW := zgw 219 (by rfl) (by rfl)
theorem nl_Journal_17 : nLI "VillageWaves$Journal" 17 y_Row_init b_Row_init 2 1 := ⟨zq219, zq70, zq30, zq71, rfl, ⟨by decide, by decide, by decide +kernel⟩⟩
abbrev rm_Journal_init : Room := { frames := 2, cells := 2, slots := 181, locals := 64 }
def nw_Journal (G : zLA) (h : Nat) (q : Nat → Nat) : va_W := [(h, .inr (2, [.int 0, .ref (q 0)])), (q 0, .inr (4, [.ref (q 1)])), (q 1, .inl (zaC G 0, 180, .inl (fun _ => 0)))]
set_option maxRecDepth 20000 in
theorem c_Journal_init (l : Launch) (G : zLA) (h : Nat) : nM l G y_Journal_init (zws y_Journal_init b_Journal_init 1 none) (rm_Journal_init) [.ref h] [(h, .inr (2, [.int 0, .null]))] (nw_Journal G h) := by
  refine n_ofM (own := "VillageWaves$Journal") (lv := [(0, .ref h)]) (by decide) rfl rfl rfl (Nat.le_of_ble_eq_true rfl) (fun p e s m args below meth c C hname => ?_)
  refine n_aload_n C d_Journal_init_0 0 rfl rfl ?_
  refine n_obj C zq217 zq53 zq54 (Nat.le_of_ble_eq_true rfl) (Nat.le_of_ble_eq_true rfl) d_Journal_init_1 ?_
  refine n_aload_n C d_Journal_init_4 0 rfl rfl ?_
  refine n_iconst (v := 0) C d_Journal_init_5 (by decide) ?_
  refine n_put C zin_2 zy2 zn2 rfl 0 (by decide) zq220 rfl rfl (by decide +kernel) (Nat.le_of_ble_eq_true rfl) d_Journal_init_6 ?_
  refine n_aload_n C d_Journal_init_9 0 rfl rfl ?_
  refine n_new (ci := 4) (fs := [.null]) C zin_4 zy4 rfl zq218 zq68 zq30 nf_4 (Nat.le_of_ble_eq_true rfl) (Nat.le_of_ble_eq_true rfl) d_Journal_init_10 (fun q10 => ?_)
  refine n_dup C d_Journal_init_13 rfl ?_
  refine n_sipush (v := 180) C d_Journal_init_14 (by decide) ?_
  refine n_callI (as := [.int 180]) (rest := [.ref q10, .ref h]) C nl_Journal_17 (c_Row_init l G q10 (n := 180) (N := 180) (by decide) (by decide) (by decide)) rfl rfl (Nat.le_of_ble_eq_true rfl) ⟨(Nat.le_of_ble_eq_true rfl), (Nat.le_of_ble_eq_true rfl)⟩ ⟨(Nat.le_of_ble_eq_true rfl), (Nat.le_of_ble_eq_true rfl)⟩ d_Journal_init_17 (fun f17 => ?_)
  refine n_putF (ty := .object "VillageWaves$Row") C hname zin_2 zy2 zn2 rfl 1 (by decide) zq222 rfl rfl rfl (by decide +kernel) rfl rfl (Nat.le_of_ble_eq_true rfl) d_Journal_init_20 ?_
  exact n_ret C (fun i => ([q10, (f17 0)] : List Nat).getD i 0) rfl rfl (Nat.le_of_ble_eq_true rfl) (Nat.le_of_ble_eq_true rfl) d_Journal_init_23
abbrev b_Text_init : ByteArray := prog_7_method_1_code
abbrev y_Text_init : MethodName := ⟨"VillageWaves$Text", "<init>", "()V"⟩
theorem d_Text_init_0 : decode b_Text_init 0 = .ok (.aload_n 0, 1) := by decide +kernel
theorem d_Text_init_1 : decode b_Text_init 1 = .ok (.invokespecial 3, 3) := by decide +kernel
theorem d_Text_init_4 : decode b_Text_init 4 = .ok (.aload_n 0, 1) := by decide +kernel
theorem d_Text_init_5 : decode b_Text_init 5 = .ok (.new 9, 3) := by decide +kernel
theorem d_Text_init_8 : decode b_Text_init 8 = .ok (.dup, 1) := by decide +kernel
theorem d_Text_init_9 : decode b_Text_init 9 = .ok (.sipush 700, 3) := by decide +kernel
theorem d_Text_init_12 : decode b_Text_init 12 = .ok (.invokespecial 11, 3) := by decide +kernel
theorem d_Text_init_15 : decode b_Text_init 15 = .ok (.putfield 14, 3) := by decide +kernel
theorem d_Text_init_18 : decode b_Text_init 18 = .ok (.aload_n 0, 1) := by decide +kernel
theorem d_Text_init_19 : decode b_Text_init 19 = .ok (.iconst 0, 1) := by decide +kernel
theorem d_Text_init_20 : decode b_Text_init 20 = .ok (.putfield 20, 3) := by decide +kernel
theorem d_Text_init_23 : decode b_Text_init 23 = .ok (.aload_n 0, 1) := by decide +kernel
theorem d_Text_init_24 : decode b_Text_init 24 = .ok (.iconst 0, 1) := by decide +kernel
theorem d_Text_init_25 : decode b_Text_init 25 = .ok (.putfield 24, 3) := by decide +kernel
theorem d_Text_init_28 : decode b_Text_init 28 = .ok (.aload_n 0, 1) := by decide +kernel
theorem d_Text_init_29 : decode b_Text_init 29 = .ok (.iconst 0, 1) := by decide +kernel
theorem d_Text_init_30 : decode b_Text_init 30 = .ok (.putfield 27, 3) := by decide +kernel
theorem d_Text_init_33 : decode b_Text_init 33 = .ok (.aload_n 0, 1) := by decide +kernel
theorem d_Text_init_34 : decode b_Text_init 34 = .ok (.iconst 0, 1) := by decide +kernel
theorem d_Text_init_35 : decode b_Text_init 35 = .ok (.putfield 30, 3) := by decide +kernel
theorem d_Text_init_38 : decode b_Text_init 38 = .ok (.aload_n 0, 1) := by decide +kernel
theorem d_Text_init_39 : decode b_Text_init 39 = .ok (.iconst 0, 1) := by decide +kernel
theorem d_Text_init_40 : decode b_Text_init 40 = .ok (.putfield 33, 3) := by decide +kernel
theorem d_Text_init_43 : decode b_Text_init 43 = .ok (.return_, 1) := by decide +kernel
theorem nf_5 : ∀ j, j < 6 → defaultValue (zt5 j) = vp_V ([.null, .int 0, .int 0, .int 0, .int 0, .int 0] : List Value) j := fun j hj => by
  rcases (show j = 0 ∨ j = 1 ∨ j = 2 ∨ j = 3 ∨ j = 4 ∨ j = 5 by omega) with rfl | rfl | rfl | rfl | rfl | rfl <;> rfl
set_option maxRecDepth 100000 in
theorem zq327 : (Cond.methodLink "VillageWaves$Text" 3 ⟨"java/lang/Object", "<init>", "()V"⟩ : Cond) ∈ zGW := zgw 327 (by rfl) (by rfl)
set_option maxRecDepth 100000 in
theorem zq328 : (Cond.classLink "VillageWaves$Text" 9 "VillageWaves$Row" : Cond) ∈ zGW := zgw 328 (by rfl) (by rfl)
set_option maxRecDepth 100000 in
theorem zq329 : (Cond.methodLink "VillageWaves$Text" 11 ⟨"VillageWaves$Row", "<init>", "(I)V"⟩ : Cond) ∈ zGW := zgw 329 (by rfl) (by rfl)
theorem nl_Text_11 : nLI "VillageWaves$Text" 11 y_Row_init b_Row_init 2 1 := ⟨zq329, zq70, zq30, zq71, rfl, ⟨by decide, by decide, by decide +kernel⟩⟩
set_option maxRecDepth 100000 in
theorem zq330 : (Cond.fieldLink "VillageWaves$Text" 14 "VillageWaves$Text" "bytes" "LVillageWaves$Row;" : Cond) ∈ zGW := zgw 330 (by rfl) (by rfl)
set_option maxRecDepth 100000 in
theorem zq331 : (Cond.fieldLink "VillageWaves$Text" 20 "VillageWaves$Text" "length" "I" : Cond) ∈ zGW := zgw 331 (by rfl) (by rfl)
set_option maxRecDepth 100000 in
theorem zq332 : (Cond.fieldLink "VillageWaves$Text" 24 "VillageWaves$Text" "kind" "I" : Cond) ∈ zGW := zgw 332 (by rfl) (by rfl)
set_option maxRecDepth 100000 in
theorem zq333 : (Cond.fieldLink "VillageWaves$Text" 27 "VillageWaves$Text" "start" "I" : Cond) ∈ zGW := zgw 333 (by rfl) (by rfl)
set_option maxRecDepth 100000 in
theorem zq334 : (Cond.fieldLink "VillageWaves$Text" 30 "VillageWaves$Text" "behind" "I" : Cond) ∈ zGW := zgw 334 (by rfl) (by rfl)
set_option maxRecDepth 100000 in
theorem zq335 : (Cond.fieldLink "VillageWaves$Text" 33 "VillageWaves$Text" "value" "I" : Cond) ∈ zGW := zgw 335 (by rfl) (by rfl)
abbrev rm_Text_init : Room := { frames := 2, cells := 2, slots := 701, locals := 64 }
def nw_Text (G : zLA) (h : Nat) (q : Nat → Nat) : va_W := [(h, .inr (5, [.ref (q 0), .int 0, .int 0, .int 0, .int 0, .int 0])), (q 0, .inr (4, [.ref (q 1)])), (q 1, .inl (zaC G 0, 700, .inl (fun _ => 0)))]
set_option maxRecDepth 20000 in
theorem c_Text_init (l : Launch) (G : zLA) (h : Nat) : nM l G y_Text_init (zws y_Text_init b_Text_init 1 none) (rm_Text_init) [.ref h] [(h, .inr (5, [.null, .int 0, .int 0, .int 0, .int 0, .int 0]))] (nw_Text G h) := by
  refine n_ofM (own := "VillageWaves$Text") (lv := [(0, .ref h)]) (by decide) rfl rfl rfl (Nat.le_of_ble_eq_true rfl) (fun p e s m args below meth c C hname => ?_)
  refine n_aload_n C d_Text_init_0 0 rfl rfl ?_
  refine n_obj C zq327 zq53 zq54 (Nat.le_of_ble_eq_true rfl) (Nat.le_of_ble_eq_true rfl) d_Text_init_1 ?_
  refine n_aload_n C d_Text_init_4 0 rfl rfl ?_
  refine n_new (ci := 4) (fs := [.null]) C zin_4 zy4 rfl zq328 zq68 zq30 nf_4 (Nat.le_of_ble_eq_true rfl) (Nat.le_of_ble_eq_true rfl) d_Text_init_5 (fun q5 => ?_)
  refine n_dup C d_Text_init_8 rfl ?_
  refine n_sipush (v := 700) C d_Text_init_9 (by decide) ?_
  refine n_callI (as := [.int 700]) (rest := [.ref q5, .ref h]) C nl_Text_11 (c_Row_init l G q5 (n := 700) (N := 700) (by decide) (by decide) (by decide)) rfl rfl (Nat.le_of_ble_eq_true rfl) ⟨(Nat.le_of_ble_eq_true rfl), (Nat.le_of_ble_eq_true rfl)⟩ ⟨(Nat.le_of_ble_eq_true rfl), (Nat.le_of_ble_eq_true rfl)⟩ d_Text_init_12 (fun f12 => ?_)
  refine n_putF (ty := .object "VillageWaves$Row") C hname zin_5 zy5 zn5 rfl 0 (by decide) zq330 rfl rfl rfl (by decide +kernel) rfl rfl (Nat.le_of_ble_eq_true rfl) d_Text_init_15 ?_
  refine n_aload_n C d_Text_init_18 0 rfl rfl ?_
  refine n_iconst (v := 0) C d_Text_init_19 (by decide) ?_
  refine n_put C zin_5 zy5 zn5 rfl 1 (by decide) zq331 rfl rfl (by decide +kernel) (Nat.le_of_ble_eq_true rfl) d_Text_init_20 ?_
  refine n_aload_n C d_Text_init_23 0 rfl rfl ?_
  refine n_iconst (v := 0) C d_Text_init_24 (by decide) ?_
  refine n_put C zin_5 zy5 zn5 rfl 2 (by decide) zq332 rfl rfl (by decide +kernel) (Nat.le_of_ble_eq_true rfl) d_Text_init_25 ?_
  refine n_aload_n C d_Text_init_28 0 rfl rfl ?_
  refine n_iconst (v := 0) C d_Text_init_29 (by decide) ?_
  refine n_put C zin_5 zy5 zn5 rfl 3 (by decide) zq333 rfl rfl (by decide +kernel) (Nat.le_of_ble_eq_true rfl) d_Text_init_30 ?_
  refine n_aload_n C d_Text_init_33 0 rfl rfl ?_
  refine n_iconst (v := 0) C d_Text_init_34 (by decide) ?_
  refine n_put C zin_5 zy5 zn5 rfl 4 (by decide) zq334 rfl rfl (by decide +kernel) (Nat.le_of_ble_eq_true rfl) d_Text_init_35 ?_
  refine n_aload_n C d_Text_init_38 0 rfl rfl ?_
  refine n_iconst (v := 0) C d_Text_init_39 (by decide) ?_
  refine n_put C zin_5 zy5 zn5 rfl 5 (by decide) zq335 rfl rfl (by decide +kernel) (Nat.le_of_ble_eq_true rfl) d_Text_init_40 ?_
  exact n_ret C (fun i => ([q5, (f12 0)] : List Nat).getD i 0) rfl rfl (Nat.le_of_ble_eq_true rfl) (Nat.le_of_ble_eq_true rfl) d_Text_init_43
abbrev b_Reader_init : ByteArray := prog_5_method_1_code
abbrev y_Reader_init : MethodName := ⟨"VillageWaves$Reader", "<init>", "()V"⟩
theorem d_Reader_init_0 : decode b_Reader_init 0 = .ok (.aload_n 0, 1) := by decide +kernel
theorem d_Reader_init_1 : decode b_Reader_init 1 = .ok (.invokespecial 3, 3) := by decide +kernel
theorem d_Reader_init_4 : decode b_Reader_init 4 = .ok (.aload_n 0, 1) := by decide +kernel
theorem d_Reader_init_5 : decode b_Reader_init 5 = .ok (.new 9, 3) := by decide +kernel
theorem d_Reader_init_8 : decode b_Reader_init 8 = .ok (.dup, 1) := by decide +kernel
theorem d_Reader_init_9 : decode b_Reader_init 9 = .ok (.invokespecial 11, 3) := by decide +kernel
theorem d_Reader_init_12 : decode b_Reader_init 12 = .ok (.putfield 12, 3) := by decide +kernel
theorem d_Reader_init_15 : decode b_Reader_init 15 = .ok (.aload_n 0, 1) := by decide +kernel
theorem d_Reader_init_16 : decode b_Reader_init 16 = .ok (.iconst 0, 1) := by decide +kernel
theorem d_Reader_init_17 : decode b_Reader_init 17 = .ok (.putfield 18, 3) := by decide +kernel
theorem d_Reader_init_20 : decode b_Reader_init 20 = .ok (.aload_n 0, 1) := by decide +kernel
theorem d_Reader_init_21 : decode b_Reader_init 21 = .ok (.iconst (-1), 1) := by decide +kernel
theorem d_Reader_init_22 : decode b_Reader_init 22 = .ok (.putfield 22, 3) := by decide +kernel
theorem d_Reader_init_25 : decode b_Reader_init 25 = .ok (.return_, 1) := by decide +kernel
theorem nf_3 : ∀ j, j < 3 → defaultValue (zt3 j) = vp_V ([.null, .int 0, .int 0] : List Value) j := fun j hj => by
  rcases (show j = 0 ∨ j = 1 ∨ j = 2 by omega) with rfl | rfl | rfl <;> rfl
set_option maxRecDepth 100000 in
theorem zq321 : (Cond.methodLink "VillageWaves$Reader" 3 ⟨"java/lang/Object", "<init>", "()V"⟩ : Cond) ∈ zGW := zgw 321 (by rfl) (by rfl)
set_option maxRecDepth 100000 in
theorem zq322 : (Cond.classLink "VillageWaves$Reader" 9 "VillageWaves$Text" : Cond) ∈ zGW := zgw 322 (by rfl) (by rfl)
set_option maxRecDepth 100000 in
theorem zq323 : (Cond.instantiable "VillageWaves$Text" 6 : Cond) ∈ zGW := zgw 323 (by rfl) (by rfl)
set_option maxRecDepth 100000 in
theorem zq38 : (Cond.initialized "VillageWaves$Text" : Cond) ∈ zGW := zgw 38 (by rfl) (by rfl)
set_option maxRecDepth 100000 in
theorem zq325 : (Cond.instanceMethod ⟨"VillageWaves$Text", "<init>", "()V"⟩ : Cond) ∈ zGW := zgw 325 (by rfl) (by rfl)
set_option maxRecDepth 100000 in
theorem zq326 : (Cond.code ⟨"VillageWaves$Text", "<init>", "()V"⟩ prog_7_method_1_code 1 none : Cond) ∈ zGW := zgw 326 (by rfl) (by rfl)
set_option maxRecDepth 100000 in
theorem zp324 : (Cond.methodLinkNest "VillageWaves$Reader" 11 ⟨"VillageWaves$Text", "<init>", "()V"⟩ "VillageWaves" : Cond) ∈ zNW := znw 324 (by rfl) (by rfl)
theorem nl_Reader_11 : nLN "VillageWaves$Reader" 11 y_Text_init "VillageWaves" b_Text_init 1 0 := ⟨zp324, zq325, zq38, zq326, rfl, ⟨by decide, by decide, by decide +kernel⟩⟩
set_option maxRecDepth 100000 in
theorem zq349 : (Cond.fieldLink "VillageWaves$Reader" 12 "VillageWaves$Reader" "text" "LVillageWaves$Text;" : Cond) ∈ zGW := zgw 349 (by rfl) (by rfl)
set_option maxRecDepth 100000 in
theorem zq350 : (Cond.fieldLink "VillageWaves$Reader" 18 "VillageWaves$Reader" "code" "I" : Cond) ∈ zGW := zgw 350 (by rfl) (by rfl)
set_option maxRecDepth 100000 in
theorem zq351 : (Cond.fieldLink "VillageWaves$Reader" 22 "VillageWaves$Reader" "position" "I" : Cond) ∈ zGW := zgw 351 (by rfl) (by rfl)
abbrev rm_Reader_init : Room := { frames := 3, cells := 3, slots := 707, locals := 88 }
def nw_Reader (G : zLA) (h : Nat) (q : Nat → Nat) : va_W := [(h, .inr (3, [.ref (q 0), .int 0, .int (-1)])), (q 0, .inr (5, [.ref (q 1), .int 0, .int 0, .int 0, .int 0, .int 0])), (q 1, .inr (4, [.ref (q 2)])), (q 2, .inl (zaC G 0, 700, .inl (fun _ => 0)))]
set_option maxRecDepth 20000 in
theorem c_Reader_init (l : Launch) (G : zLA) (h : Nat) : nM l G y_Reader_init (zws y_Reader_init b_Reader_init 1 none) (rm_Reader_init) [.ref h] [(h, .inr (3, [.null, .int 0, .int 0]))] (nw_Reader G h) := by
  refine n_ofM (own := "VillageWaves$Reader") (lv := [(0, .ref h)]) (by decide) rfl rfl rfl (Nat.le_of_ble_eq_true rfl) (fun p e s m args below meth c C hname => ?_)
  refine n_aload_n C d_Reader_init_0 0 rfl rfl ?_
  refine n_obj C zq321 zq53 zq54 (Nat.le_of_ble_eq_true rfl) (Nat.le_of_ble_eq_true rfl) d_Reader_init_1 ?_
  refine n_aload_n C d_Reader_init_4 0 rfl rfl ?_
  refine n_new (ci := 5) (fs := [.null, .int 0, .int 0, .int 0, .int 0, .int 0]) C zin_5 zy5 rfl zq322 zq323 zq38 nf_5 (Nat.le_of_ble_eq_true rfl) (Nat.le_of_ble_eq_true rfl) d_Reader_init_5 (fun q5 => ?_)
  refine n_dup C d_Reader_init_8 rfl ?_
  refine n_callIN (as := []) (rest := [.ref q5, .ref h]) C nl_Reader_11 (c_Text_init l G q5) rfl rfl (Nat.le_of_ble_eq_true rfl) ⟨(Nat.le_of_ble_eq_true rfl), (Nat.le_of_ble_eq_true rfl)⟩ ⟨(Nat.le_of_ble_eq_true rfl), (Nat.le_of_ble_eq_true rfl)⟩ d_Reader_init_9 (fun f9 => ?_)
  refine n_putF (ty := .object "VillageWaves$Text") C hname zin_3 zy3 zn3 rfl 0 (by decide) zq349 rfl rfl rfl (by decide +kernel) rfl rfl (Nat.le_of_ble_eq_true rfl) d_Reader_init_12 ?_
  refine n_aload_n C d_Reader_init_15 0 rfl rfl ?_
  refine n_iconst (v := 0) C d_Reader_init_16 (by decide) ?_
  refine n_put C zin_3 zy3 zn3 rfl 1 (by decide) zq350 rfl rfl (by decide +kernel) (Nat.le_of_ble_eq_true rfl) d_Reader_init_17 ?_
  refine n_aload_n C d_Reader_init_20 0 rfl rfl ?_
  refine n_iconst (v := (-1)) C d_Reader_init_21 (by decide) ?_
  refine n_put C zin_3 zy3 zn3 rfl 2 (by decide) zq351 rfl rfl (by decide +kernel) (Nat.le_of_ble_eq_true rfl) d_Reader_init_22 ?_
  exact n_ret C (fun i => ([q5, (f9 0), (f9 1)] : List Nat).getD i 0) rfl rfl (Nat.le_of_ble_eq_true rfl) (Nat.le_of_ble_eq_true rfl) d_Reader_init_25
abbrev b_Tidings_init : ByteArray := prog_8_method_1_code
abbrev y_Tidings_init : MethodName := ⟨"VillageWaves$Tidings", "<init>", "()V"⟩
theorem d_Tidings_init_0 : decode b_Tidings_init 0 = .ok (.aload_n 0, 1) := by decide +kernel
theorem d_Tidings_init_1 : decode b_Tidings_init 1 = .ok (.invokespecial 3, 3) := by decide +kernel
theorem d_Tidings_init_4 : decode b_Tidings_init 4 = .ok (.aload_n 0, 1) := by decide +kernel
theorem d_Tidings_init_5 : decode b_Tidings_init 5 = .ok (.iconst 0, 1) := by decide +kernel
theorem d_Tidings_init_6 : decode b_Tidings_init 6 = .ok (.putfield 9, 3) := by decide +kernel
theorem d_Tidings_init_9 : decode b_Tidings_init 9 = .ok (.aload_n 0, 1) := by decide +kernel
theorem d_Tidings_init_10 : decode b_Tidings_init 10 = .ok (.new 15, 3) := by decide +kernel
theorem d_Tidings_init_13 : decode b_Tidings_init 13 = .ok (.dup, 1) := by decide +kernel
theorem d_Tidings_init_14 : decode b_Tidings_init 14 = .ok (.bipush 20, 2) := by decide +kernel
theorem d_Tidings_init_16 : decode b_Tidings_init 16 = .ok (.invokespecial 17, 3) := by decide +kernel
theorem d_Tidings_init_19 : decode b_Tidings_init 19 = .ok (.putfield 20, 3) := by decide +kernel
theorem d_Tidings_init_22 : decode b_Tidings_init 22 = .ok (.aload_n 0, 1) := by decide +kernel
theorem d_Tidings_init_23 : decode b_Tidings_init 23 = .ok (.new 15, 3) := by decide +kernel
theorem d_Tidings_init_26 : decode b_Tidings_init 26 = .ok (.dup, 1) := by decide +kernel
theorem d_Tidings_init_27 : decode b_Tidings_init 27 = .ok (.bipush 20, 2) := by decide +kernel
theorem d_Tidings_init_29 : decode b_Tidings_init 29 = .ok (.invokespecial 17, 3) := by decide +kernel
theorem d_Tidings_init_32 : decode b_Tidings_init 32 = .ok (.putfield 24, 3) := by decide +kernel
theorem d_Tidings_init_35 : decode b_Tidings_init 35 = .ok (.aload_n 0, 1) := by decide +kernel
theorem d_Tidings_init_36 : decode b_Tidings_init 36 = .ok (.new 15, 3) := by decide +kernel
theorem d_Tidings_init_39 : decode b_Tidings_init 39 = .ok (.dup, 1) := by decide +kernel
theorem d_Tidings_init_40 : decode b_Tidings_init 40 = .ok (.bipush 20, 2) := by decide +kernel
theorem d_Tidings_init_42 : decode b_Tidings_init 42 = .ok (.invokespecial 17, 3) := by decide +kernel
theorem d_Tidings_init_45 : decode b_Tidings_init 45 = .ok (.putfield 27, 3) := by decide +kernel
theorem d_Tidings_init_48 : decode b_Tidings_init 48 = .ok (.aload_n 0, 1) := by decide +kernel
theorem d_Tidings_init_49 : decode b_Tidings_init 49 = .ok (.new 15, 3) := by decide +kernel
theorem d_Tidings_init_52 : decode b_Tidings_init 52 = .ok (.dup, 1) := by decide +kernel
theorem d_Tidings_init_53 : decode b_Tidings_init 53 = .ok (.bipush 20, 2) := by decide +kernel
theorem d_Tidings_init_55 : decode b_Tidings_init 55 = .ok (.invokespecial 17, 3) := by decide +kernel
theorem d_Tidings_init_58 : decode b_Tidings_init 58 = .ok (.putfield 30, 3) := by decide +kernel
theorem d_Tidings_init_61 : decode b_Tidings_init 61 = .ok (.aload_n 0, 1) := by decide +kernel
theorem d_Tidings_init_62 : decode b_Tidings_init 62 = .ok (.new 15, 3) := by decide +kernel
theorem d_Tidings_init_65 : decode b_Tidings_init 65 = .ok (.dup, 1) := by decide +kernel
theorem d_Tidings_init_66 : decode b_Tidings_init 66 = .ok (.bipush 20, 2) := by decide +kernel
theorem d_Tidings_init_68 : decode b_Tidings_init 68 = .ok (.invokespecial 17, 3) := by decide +kernel
theorem d_Tidings_init_71 : decode b_Tidings_init 71 = .ok (.putfield 33, 3) := by decide +kernel
theorem d_Tidings_init_74 : decode b_Tidings_init 74 = .ok (.aload_n 0, 1) := by decide +kernel
theorem d_Tidings_init_75 : decode b_Tidings_init 75 = .ok (.new 15, 3) := by decide +kernel
theorem d_Tidings_init_78 : decode b_Tidings_init 78 = .ok (.dup, 1) := by decide +kernel
theorem d_Tidings_init_79 : decode b_Tidings_init 79 = .ok (.bipush 20, 2) := by decide +kernel
theorem d_Tidings_init_81 : decode b_Tidings_init 81 = .ok (.invokespecial 17, 3) := by decide +kernel
theorem d_Tidings_init_84 : decode b_Tidings_init 84 = .ok (.putfield 36, 3) := by decide +kernel
theorem d_Tidings_init_87 : decode b_Tidings_init 87 = .ok (.aload_n 0, 1) := by decide +kernel
theorem d_Tidings_init_88 : decode b_Tidings_init 88 = .ok (.new 15, 3) := by decide +kernel
theorem d_Tidings_init_91 : decode b_Tidings_init 91 = .ok (.dup, 1) := by decide +kernel
theorem d_Tidings_init_92 : decode b_Tidings_init 92 = .ok (.bipush 20, 2) := by decide +kernel
theorem d_Tidings_init_94 : decode b_Tidings_init 94 = .ok (.invokespecial 17, 3) := by decide +kernel
theorem d_Tidings_init_97 : decode b_Tidings_init 97 = .ok (.putfield 39, 3) := by decide +kernel
theorem d_Tidings_init_100 : decode b_Tidings_init 100 = .ok (.aload_n 0, 1) := by decide +kernel
theorem d_Tidings_init_101 : decode b_Tidings_init 101 = .ok (.new 15, 3) := by decide +kernel
theorem d_Tidings_init_104 : decode b_Tidings_init 104 = .ok (.dup, 1) := by decide +kernel
theorem d_Tidings_init_105 : decode b_Tidings_init 105 = .ok (.bipush 20, 2) := by decide +kernel
theorem d_Tidings_init_107 : decode b_Tidings_init 107 = .ok (.invokespecial 17, 3) := by decide +kernel
theorem d_Tidings_init_110 : decode b_Tidings_init 110 = .ok (.putfield 42, 3) := by decide +kernel
theorem d_Tidings_init_113 : decode b_Tidings_init 113 = .ok (.aload_n 0, 1) := by decide +kernel
theorem d_Tidings_init_114 : decode b_Tidings_init 114 = .ok (.new 15, 3) := by decide +kernel
theorem d_Tidings_init_117 : decode b_Tidings_init 117 = .ok (.dup, 1) := by decide +kernel
theorem d_Tidings_init_118 : decode b_Tidings_init 118 = .ok (.bipush 20, 2) := by decide +kernel
theorem d_Tidings_init_120 : decode b_Tidings_init 120 = .ok (.invokespecial 17, 3) := by decide +kernel
theorem d_Tidings_init_123 : decode b_Tidings_init 123 = .ok (.putfield 45, 3) := by decide +kernel
theorem d_Tidings_init_126 : decode b_Tidings_init 126 = .ok (.return_, 1) := by decide +kernel
theorem nf_6 : ∀ j, j < 10 → defaultValue (zt6 j) = vp_V ([.int 0, .null, .null, .null, .null, .null, .null, .null, .null, .null] : List Value) j := fun j hj => by
  rcases (show j = 0 ∨ j = 1 ∨ j = 2 ∨ j = 3 ∨ j = 4 ∨ j = 5 ∨ j = 6 ∨ j = 7 ∨ j = 8 ∨ j = 9 by omega) with rfl | rfl | rfl | rfl | rfl | rfl | rfl | rfl | rfl | rfl <;> rfl
set_option maxRecDepth 100000 in
theorem zq145 : (Cond.methodLink "VillageWaves$Tidings" 3 ⟨"java/lang/Object", "<init>", "()V"⟩ : Cond) ∈ zGW := zgw 145 (by rfl) (by rfl)
set_option maxRecDepth 100000 in
theorem zq146 : (Cond.classLink "VillageWaves$Tidings" 15 "VillageWaves$Row" : Cond) ∈ zGW := zgw 146 (by rfl) (by rfl)
set_option maxRecDepth 100000 in
theorem zq147 : (Cond.methodLink "VillageWaves$Tidings" 17 ⟨"VillageWaves$Row", "<init>", "(I)V"⟩ : Cond) ∈ zGW := zgw 147 (by rfl) (by rfl)
theorem nl_Tidings_17 : nLI "VillageWaves$Tidings" 17 y_Row_init b_Row_init 2 1 := ⟨zq147, zq70, zq30, zq71, rfl, ⟨by decide, by decide, by decide +kernel⟩⟩
abbrev rm_Tidings_init : Room := { frames := 2, cells := 18, slots := 189, locals := 64 }
def nw_Tidings (G : zLA) (h : Nat) (q : Nat → Nat) : va_W := [(h, .inr (6, [.int 0, .ref (q 0), .ref (q 2), .ref (q 4), .ref (q 6), .ref (q 8), .ref (q 10), .ref (q 12), .ref (q 14), .ref (q 16)])), (q 0, .inr (4, [.ref (q 1)])), (q 1, .inl (zaC G 0, 20, .inl (fun _ => 0))), (q 2, .inr (4, [.ref (q 3)])), (q 3, .inl (zaC G 0, 20, .inl (fun _ => 0))), (q 4, .inr (4, [.ref (q 5)])), (q 5, .inl (zaC G 0, 20, .inl (fun _ => 0))), (q 6, .inr (4, [.ref (q 7)])), (q 7, .inl (zaC G 0, 20, .inl (fun _ => 0))), (q 8, .inr (4, [.ref (q 9)])), (q 9, .inl (zaC G 0, 20, .inl (fun _ => 0))), (q 10, .inr (4, [.ref (q 11)])), (q 11, .inl (zaC G 0, 20, .inl (fun _ => 0))), (q 12, .inr (4, [.ref (q 13)])), (q 13, .inl (zaC G 0, 20, .inl (fun _ => 0))), (q 14, .inr (4, [.ref (q 15)])), (q 15, .inl (zaC G 0, 20, .inl (fun _ => 0))), (q 16, .inr (4, [.ref (q 17)])), (q 17, .inl (zaC G 0, 20, .inl (fun _ => 0)))]
set_option maxRecDepth 20000 in
theorem c_Tidings_init (l : Launch) (G : zLA) (h : Nat) : nM l G y_Tidings_init (zws y_Tidings_init b_Tidings_init 1 none) (rm_Tidings_init) [.ref h] [(h, .inr (6, [.int 0, .null, .null, .null, .null, .null, .null, .null, .null, .null]))] (nw_Tidings G h) := by
  refine n_ofM (own := "VillageWaves$Tidings") (lv := [(0, .ref h)]) (by decide) rfl rfl rfl (Nat.le_of_ble_eq_true rfl) (fun p e s m args below meth c C hname => ?_)
  refine n_aload_n C d_Tidings_init_0 0 rfl rfl ?_
  refine n_obj C zq145 zq53 zq54 (Nat.le_of_ble_eq_true rfl) (Nat.le_of_ble_eq_true rfl) d_Tidings_init_1 ?_
  refine n_aload_n C d_Tidings_init_4 0 rfl rfl ?_
  refine n_iconst (v := 0) C d_Tidings_init_5 (by decide) ?_
  refine n_put C zin_6 zy6 zn6 rfl 0 (by decide) zq148 rfl rfl (by decide +kernel) (Nat.le_of_ble_eq_true rfl) d_Tidings_init_6 ?_
  refine n_aload_n C d_Tidings_init_9 0 rfl rfl ?_
  refine n_new (ci := 4) (fs := [.null]) C zin_4 zy4 rfl zq146 zq68 zq30 nf_4 (Nat.le_of_ble_eq_true rfl) (Nat.le_of_ble_eq_true rfl) d_Tidings_init_10 (fun q10 => ?_)
  refine n_dup C d_Tidings_init_13 rfl ?_
  refine n_bipush (v := 20) C d_Tidings_init_14 (by decide) ?_
  refine n_callI (as := [.int 20]) (rest := [.ref q10, .ref h]) C nl_Tidings_17 (c_Row_init l G q10 (n := 20) (N := 20) (by decide) (by decide) (by decide)) rfl rfl (Nat.le_of_ble_eq_true rfl) ⟨(Nat.le_of_ble_eq_true rfl), (Nat.le_of_ble_eq_true rfl)⟩ ⟨(Nat.le_of_ble_eq_true rfl), (Nat.le_of_ble_eq_true rfl)⟩ d_Tidings_init_16 (fun f16 => ?_)
  refine n_putF (ty := .object "VillageWaves$Row") C hname zin_6 zy6 zn6 rfl 1 (by decide) zq151 rfl rfl rfl (by decide +kernel) rfl rfl (Nat.le_of_ble_eq_true rfl) d_Tidings_init_19 ?_
  refine n_aload_n C d_Tidings_init_22 0 rfl rfl ?_
  refine n_new (ci := 4) (fs := [.null]) C zin_4 zy4 rfl zq146 zq68 zq30 nf_4 (Nat.le_of_ble_eq_true rfl) (Nat.le_of_ble_eq_true rfl) d_Tidings_init_23 (fun q23 => ?_)
  refine n_dup C d_Tidings_init_26 rfl ?_
  refine n_bipush (v := 20) C d_Tidings_init_27 (by decide) ?_
  refine n_callI (as := [.int 20]) (rest := [.ref q23, .ref h]) C nl_Tidings_17 (c_Row_init l G q23 (n := 20) (N := 20) (by decide) (by decide) (by decide)) rfl rfl (Nat.le_of_ble_eq_true rfl) ⟨(Nat.le_of_ble_eq_true rfl), (Nat.le_of_ble_eq_true rfl)⟩ ⟨(Nat.le_of_ble_eq_true rfl), (Nat.le_of_ble_eq_true rfl)⟩ d_Tidings_init_29 (fun f29 => ?_)
  refine n_putF (ty := .object "VillageWaves$Row") C hname zin_6 zy6 zn6 rfl 2 (by decide) zq153 rfl rfl rfl (by decide +kernel) rfl rfl (Nat.le_of_ble_eq_true rfl) d_Tidings_init_32 ?_
  refine n_aload_n C d_Tidings_init_35 0 rfl rfl ?_
  refine n_new (ci := 4) (fs := [.null]) C zin_4 zy4 rfl zq146 zq68 zq30 nf_4 (Nat.le_of_ble_eq_true rfl) (Nat.le_of_ble_eq_true rfl) d_Tidings_init_36 (fun q36 => ?_)
  refine n_dup C d_Tidings_init_39 rfl ?_
  refine n_bipush (v := 20) C d_Tidings_init_40 (by decide) ?_
  refine n_callI (as := [.int 20]) (rest := [.ref q36, .ref h]) C nl_Tidings_17 (c_Row_init l G q36 (n := 20) (N := 20) (by decide) (by decide) (by decide)) rfl rfl (Nat.le_of_ble_eq_true rfl) ⟨(Nat.le_of_ble_eq_true rfl), (Nat.le_of_ble_eq_true rfl)⟩ ⟨(Nat.le_of_ble_eq_true rfl), (Nat.le_of_ble_eq_true rfl)⟩ d_Tidings_init_42 (fun f42 => ?_)
  refine n_putF (ty := .object "VillageWaves$Row") C hname zin_6 zy6 zn6 rfl 3 (by decide) zq155 rfl rfl rfl (by decide +kernel) rfl rfl (Nat.le_of_ble_eq_true rfl) d_Tidings_init_45 ?_
  refine n_aload_n C d_Tidings_init_48 0 rfl rfl ?_
  refine n_new (ci := 4) (fs := [.null]) C zin_4 zy4 rfl zq146 zq68 zq30 nf_4 (Nat.le_of_ble_eq_true rfl) (Nat.le_of_ble_eq_true rfl) d_Tidings_init_49 (fun q49 => ?_)
  refine n_dup C d_Tidings_init_52 rfl ?_
  refine n_bipush (v := 20) C d_Tidings_init_53 (by decide) ?_
  refine n_callI (as := [.int 20]) (rest := [.ref q49, .ref h]) C nl_Tidings_17 (c_Row_init l G q49 (n := 20) (N := 20) (by decide) (by decide) (by decide)) rfl rfl (Nat.le_of_ble_eq_true rfl) ⟨(Nat.le_of_ble_eq_true rfl), (Nat.le_of_ble_eq_true rfl)⟩ ⟨(Nat.le_of_ble_eq_true rfl), (Nat.le_of_ble_eq_true rfl)⟩ d_Tidings_init_55 (fun f55 => ?_)
  refine n_putF (ty := .object "VillageWaves$Row") C hname zin_6 zy6 zn6 rfl 4 (by decide) zq157 rfl rfl rfl (by decide +kernel) rfl rfl (Nat.le_of_ble_eq_true rfl) d_Tidings_init_58 ?_
  refine n_aload_n C d_Tidings_init_61 0 rfl rfl ?_
  refine n_new (ci := 4) (fs := [.null]) C zin_4 zy4 rfl zq146 zq68 zq30 nf_4 (Nat.le_of_ble_eq_true rfl) (Nat.le_of_ble_eq_true rfl) d_Tidings_init_62 (fun q62 => ?_)
  refine n_dup C d_Tidings_init_65 rfl ?_
  refine n_bipush (v := 20) C d_Tidings_init_66 (by decide) ?_
  refine n_callI (as := [.int 20]) (rest := [.ref q62, .ref h]) C nl_Tidings_17 (c_Row_init l G q62 (n := 20) (N := 20) (by decide) (by decide) (by decide)) rfl rfl (Nat.le_of_ble_eq_true rfl) ⟨(Nat.le_of_ble_eq_true rfl), (Nat.le_of_ble_eq_true rfl)⟩ ⟨(Nat.le_of_ble_eq_true rfl), (Nat.le_of_ble_eq_true rfl)⟩ d_Tidings_init_68 (fun f68 => ?_)
  refine n_putF (ty := .object "VillageWaves$Row") C hname zin_6 zy6 zn6 rfl 5 (by decide) zq160 rfl rfl rfl (by decide +kernel) rfl rfl (Nat.le_of_ble_eq_true rfl) d_Tidings_init_71 ?_
  refine n_aload_n C d_Tidings_init_74 0 rfl rfl ?_
  refine n_new (ci := 4) (fs := [.null]) C zin_4 zy4 rfl zq146 zq68 zq30 nf_4 (Nat.le_of_ble_eq_true rfl) (Nat.le_of_ble_eq_true rfl) d_Tidings_init_75 (fun q75 => ?_)
  refine n_dup C d_Tidings_init_78 rfl ?_
  refine n_bipush (v := 20) C d_Tidings_init_79 (by decide) ?_
  refine n_callI (as := [.int 20]) (rest := [.ref q75, .ref h]) C nl_Tidings_17 (c_Row_init l G q75 (n := 20) (N := 20) (by decide) (by decide) (by decide)) rfl rfl (Nat.le_of_ble_eq_true rfl) ⟨(Nat.le_of_ble_eq_true rfl), (Nat.le_of_ble_eq_true rfl)⟩ ⟨(Nat.le_of_ble_eq_true rfl), (Nat.le_of_ble_eq_true rfl)⟩ d_Tidings_init_81 (fun f81 => ?_)
  refine n_putF (ty := .object "VillageWaves$Row") C hname zin_6 zy6 zn6 rfl 6 (by decide) zq163 rfl rfl rfl (by decide +kernel) rfl rfl (Nat.le_of_ble_eq_true rfl) d_Tidings_init_84 ?_
  refine n_aload_n C d_Tidings_init_87 0 rfl rfl ?_
  refine n_new (ci := 4) (fs := [.null]) C zin_4 zy4 rfl zq146 zq68 zq30 nf_4 (Nat.le_of_ble_eq_true rfl) (Nat.le_of_ble_eq_true rfl) d_Tidings_init_88 (fun q88 => ?_)
  refine n_dup C d_Tidings_init_91 rfl ?_
  refine n_bipush (v := 20) C d_Tidings_init_92 (by decide) ?_
  refine n_callI (as := [.int 20]) (rest := [.ref q88, .ref h]) C nl_Tidings_17 (c_Row_init l G q88 (n := 20) (N := 20) (by decide) (by decide) (by decide)) rfl rfl (Nat.le_of_ble_eq_true rfl) ⟨(Nat.le_of_ble_eq_true rfl), (Nat.le_of_ble_eq_true rfl)⟩ ⟨(Nat.le_of_ble_eq_true rfl), (Nat.le_of_ble_eq_true rfl)⟩ d_Tidings_init_94 (fun f94 => ?_)
  refine n_putF (ty := .object "VillageWaves$Row") C hname zin_6 zy6 zn6 rfl 7 (by decide) zq166 rfl rfl rfl (by decide +kernel) rfl rfl (Nat.le_of_ble_eq_true rfl) d_Tidings_init_97 ?_
  refine n_aload_n C d_Tidings_init_100 0 rfl rfl ?_
  refine n_new (ci := 4) (fs := [.null]) C zin_4 zy4 rfl zq146 zq68 zq30 nf_4 (Nat.le_of_ble_eq_true rfl) (Nat.le_of_ble_eq_true rfl) d_Tidings_init_101 (fun q101 => ?_)
  refine n_dup C d_Tidings_init_104 rfl ?_
  refine n_bipush (v := 20) C d_Tidings_init_105 (by decide) ?_
  refine n_callI (as := [.int 20]) (rest := [.ref q101, .ref h]) C nl_Tidings_17 (c_Row_init l G q101 (n := 20) (N := 20) (by decide) (by decide) (by decide)) rfl rfl (Nat.le_of_ble_eq_true rfl) ⟨(Nat.le_of_ble_eq_true rfl), (Nat.le_of_ble_eq_true rfl)⟩ ⟨(Nat.le_of_ble_eq_true rfl), (Nat.le_of_ble_eq_true rfl)⟩ d_Tidings_init_107 (fun f107 => ?_)
  refine n_putF (ty := .object "VillageWaves$Row") C hname zin_6 zy6 zn6 rfl 8 (by decide) zq169 rfl rfl rfl (by decide +kernel) rfl rfl (Nat.le_of_ble_eq_true rfl) d_Tidings_init_110 ?_
  refine n_aload_n C d_Tidings_init_113 0 rfl rfl ?_
  refine n_new (ci := 4) (fs := [.null]) C zin_4 zy4 rfl zq146 zq68 zq30 nf_4 (Nat.le_of_ble_eq_true rfl) (Nat.le_of_ble_eq_true rfl) d_Tidings_init_114 (fun q114 => ?_)
  refine n_dup C d_Tidings_init_117 rfl ?_
  refine n_bipush (v := 20) C d_Tidings_init_118 (by decide) ?_
  refine n_callI (as := [.int 20]) (rest := [.ref q114, .ref h]) C nl_Tidings_17 (c_Row_init l G q114 (n := 20) (N := 20) (by decide) (by decide) (by decide)) rfl rfl (Nat.le_of_ble_eq_true rfl) ⟨(Nat.le_of_ble_eq_true rfl), (Nat.le_of_ble_eq_true rfl)⟩ ⟨(Nat.le_of_ble_eq_true rfl), (Nat.le_of_ble_eq_true rfl)⟩ d_Tidings_init_120 (fun f120 => ?_)
  refine n_putF (ty := .object "VillageWaves$Row") C hname zin_6 zy6 zn6 rfl 9 (by decide) zq172 rfl rfl rfl (by decide +kernel) rfl rfl (Nat.le_of_ble_eq_true rfl) d_Tidings_init_123 ?_
  exact n_ret C (fun i => ([q10, (f16 0), q23, (f29 0), q36, (f42 0), q49, (f55 0), q62, (f68 0), q75, (f81 0), q88, (f94 0), q101, (f107 0), q114, (f120 0)] : List Nat).getD i 0) rfl rfl (Nat.le_of_ble_eq_true rfl) (Nat.le_of_ble_eq_true rfl) d_Tidings_init_126
