abbrev b_Model_init : ByteArray := prog_11_method_1_code
abbrev y_Model_init : MethodName := ⟨"VillageWavesModel", "<init>", "()V"⟩
theorem d_Model_init_0 : decode b_Model_init 0 = .ok (.aload_n 0, 1) := by decide +kernel
theorem d_Model_init_1 : decode b_Model_init 1 = .ok (.invokespecial 1, 3) := by decide +kernel
theorem d_Model_init_4 : decode b_Model_init 4 = .ok (.aload_n 0, 1) := by decide +kernel
theorem d_Model_init_5 : decode b_Model_init 5 = .ok (.sipush 2592, 3) := by decide +kernel
theorem d_Model_init_8 : decode b_Model_init 8 = .ok (.newarray .int, 2) := by decide +kernel
theorem d_Model_init_10 : decode b_Model_init 10 = .ok (.putfield 7, 3) := by decide +kernel
theorem d_Model_init_13 : decode b_Model_init 13 = .ok (.aload_n 0, 1) := by decide +kernel
theorem d_Model_init_14 : decode b_Model_init 14 = .ok (.sipush 2592, 3) := by decide +kernel
theorem d_Model_init_17 : decode b_Model_init 17 = .ok (.newarray .int, 2) := by decide +kernel
theorem d_Model_init_19 : decode b_Model_init 19 = .ok (.putfield 13, 3) := by decide +kernel
theorem d_Model_init_22 : decode b_Model_init 22 = .ok (.aload_n 0, 1) := by decide +kernel
theorem d_Model_init_23 : decode b_Model_init 23 = .ok (.sipush 2592, 3) := by decide +kernel
theorem d_Model_init_26 : decode b_Model_init 26 = .ok (.newarray .int, 2) := by decide +kernel
theorem d_Model_init_28 : decode b_Model_init 28 = .ok (.putfield 16, 3) := by decide +kernel
theorem d_Model_init_31 : decode b_Model_init 31 = .ok (.aload_n 0, 1) := by decide +kernel
theorem d_Model_init_32 : decode b_Model_init 32 = .ok (.sipush 5184, 3) := by decide +kernel
theorem d_Model_init_35 : decode b_Model_init 35 = .ok (.newarray .int, 2) := by decide +kernel
theorem d_Model_init_37 : decode b_Model_init 37 = .ok (.putfield 19, 3) := by decide +kernel
theorem d_Model_init_40 : decode b_Model_init 40 = .ok (.aload_n 0, 1) := by decide +kernel
theorem d_Model_init_41 : decode b_Model_init 41 = .ok (.iconst 2, 1) := by decide +kernel
theorem d_Model_init_42 : decode b_Model_init 42 = .ok (.newarray .boolean, 2) := by decide +kernel
theorem d_Model_init_44 : decode b_Model_init 44 = .ok (.putfield 22, 3) := by decide +kernel
theorem d_Model_init_47 : decode b_Model_init 47 = .ok (.aload_n 0, 1) := by decide +kernel
theorem d_Model_init_48 : decode b_Model_init 48 = .ok (.iconst 5, 1) := by decide +kernel
theorem d_Model_init_49 : decode b_Model_init 49 = .ok (.newarray .int, 2) := by decide +kernel
theorem d_Model_init_51 : decode b_Model_init 51 = .ok (.dup, 1) := by decide +kernel
theorem d_Model_init_52 : decode b_Model_init 52 = .ok (.iconst 0, 1) := by decide +kernel
theorem d_Model_init_53 : decode b_Model_init 53 = .ok (.iconst 5, 1) := by decide +kernel
theorem d_Model_init_54 : decode b_Model_init 54 = .ok (.iastore, 1) := by decide +kernel
theorem d_Model_init_55 : decode b_Model_init 55 = .ok (.dup, 1) := by decide +kernel
theorem d_Model_init_56 : decode b_Model_init 56 = .ok (.iconst 1, 1) := by decide +kernel
theorem d_Model_init_57 : decode b_Model_init 57 = .ok (.iconst 1, 1) := by decide +kernel
theorem d_Model_init_58 : decode b_Model_init 58 = .ok (.iastore, 1) := by decide +kernel
theorem d_Model_init_59 : decode b_Model_init 59 = .ok (.dup, 1) := by decide +kernel
theorem d_Model_init_60 : decode b_Model_init 60 = .ok (.iconst 2, 1) := by decide +kernel
theorem d_Model_init_61 : decode b_Model_init 61 = .ok (.bipush 40, 2) := by decide +kernel
theorem d_Model_init_63 : decode b_Model_init 63 = .ok (.iastore, 1) := by decide +kernel
theorem d_Model_init_64 : decode b_Model_init 64 = .ok (.dup, 1) := by decide +kernel
theorem d_Model_init_65 : decode b_Model_init 65 = .ok (.iconst 3, 1) := by decide +kernel
theorem d_Model_init_66 : decode b_Model_init 66 = .ok (.bipush 10, 2) := by decide +kernel
theorem d_Model_init_68 : decode b_Model_init 68 = .ok (.iastore, 1) := by decide +kernel
theorem d_Model_init_69 : decode b_Model_init 69 = .ok (.dup, 1) := by decide +kernel
theorem d_Model_init_70 : decode b_Model_init 70 = .ok (.iconst 4, 1) := by decide +kernel
theorem d_Model_init_71 : decode b_Model_init 71 = .ok (.bipush 11, 2) := by decide +kernel
theorem d_Model_init_73 : decode b_Model_init 73 = .ok (.iastore, 1) := by decide +kernel
theorem d_Model_init_74 : decode b_Model_init 74 = .ok (.putfield 26, 3) := by decide +kernel
theorem d_Model_init_77 : decode b_Model_init 77 = .ok (.aload_n 0, 1) := by decide +kernel
theorem d_Model_init_78 : decode b_Model_init 78 = .ok (.iconst 5, 1) := by decide +kernel
theorem d_Model_init_79 : decode b_Model_init 79 = .ok (.newarray .int, 2) := by decide +kernel
theorem d_Model_init_81 : decode b_Model_init 81 = .ok (.dup, 1) := by decide +kernel
theorem d_Model_init_82 : decode b_Model_init 82 = .ok (.iconst 0, 1) := by decide +kernel
theorem d_Model_init_83 : decode b_Model_init 83 = .ok (.iconst 1, 1) := by decide +kernel
theorem d_Model_init_84 : decode b_Model_init 84 = .ok (.iastore, 1) := by decide +kernel
theorem d_Model_init_85 : decode b_Model_init 85 = .ok (.dup, 1) := by decide +kernel
theorem d_Model_init_86 : decode b_Model_init 86 = .ok (.iconst 1, 1) := by decide +kernel
theorem d_Model_init_87 : decode b_Model_init 87 = .ok (.iconst 0, 1) := by decide +kernel
theorem d_Model_init_88 : decode b_Model_init 88 = .ok (.iastore, 1) := by decide +kernel
theorem d_Model_init_89 : decode b_Model_init 89 = .ok (.dup, 1) := by decide +kernel
theorem d_Model_init_90 : decode b_Model_init 90 = .ok (.iconst 2, 1) := by decide +kernel
theorem d_Model_init_91 : decode b_Model_init 91 = .ok (.iconst 0, 1) := by decide +kernel
theorem d_Model_init_92 : decode b_Model_init 92 = .ok (.iastore, 1) := by decide +kernel
theorem d_Model_init_93 : decode b_Model_init 93 = .ok (.dup, 1) := by decide +kernel
theorem d_Model_init_94 : decode b_Model_init 94 = .ok (.iconst 3, 1) := by decide +kernel
theorem d_Model_init_95 : decode b_Model_init 95 = .ok (.iconst 1, 1) := by decide +kernel
theorem d_Model_init_96 : decode b_Model_init 96 = .ok (.iastore, 1) := by decide +kernel
theorem d_Model_init_97 : decode b_Model_init 97 = .ok (.dup, 1) := by decide +kernel
theorem d_Model_init_98 : decode b_Model_init 98 = .ok (.iconst 4, 1) := by decide +kernel
theorem d_Model_init_99 : decode b_Model_init 99 = .ok (.iconst 0, 1) := by decide +kernel
theorem d_Model_init_100 : decode b_Model_init 100 = .ok (.iastore, 1) := by decide +kernel
theorem d_Model_init_101 : decode b_Model_init 101 = .ok (.putfield 29, 3) := by decide +kernel
theorem d_Model_init_104 : decode b_Model_init 104 = .ok (.aload_n 0, 1) := by decide +kernel
theorem d_Model_init_105 : decode b_Model_init 105 = .ok (.iconst 5, 1) := by decide +kernel
theorem d_Model_init_106 : decode b_Model_init 106 = .ok (.newarray .int, 2) := by decide +kernel
theorem d_Model_init_108 : decode b_Model_init 108 = .ok (.dup, 1) := by decide +kernel
theorem d_Model_init_109 : decode b_Model_init 109 = .ok (.iconst 0, 1) := by decide +kernel
theorem d_Model_init_110 : decode b_Model_init 110 = .ok (.bipush 50, 2) := by decide +kernel
theorem d_Model_init_112 : decode b_Model_init 112 = .ok (.iastore, 1) := by decide +kernel
theorem d_Model_init_113 : decode b_Model_init 113 = .ok (.dup, 1) := by decide +kernel
theorem d_Model_init_114 : decode b_Model_init 114 = .ok (.iconst 1, 1) := by decide +kernel
theorem d_Model_init_115 : decode b_Model_init 115 = .ok (.bipush 20, 2) := by decide +kernel
theorem d_Model_init_117 : decode b_Model_init 117 = .ok (.iastore, 1) := by decide +kernel
theorem d_Model_init_118 : decode b_Model_init 118 = .ok (.dup, 1) := by decide +kernel
theorem d_Model_init_119 : decode b_Model_init 119 = .ok (.iconst 2, 1) := by decide +kernel
theorem d_Model_init_120 : decode b_Model_init 120 = .ok (.sipush 200, 3) := by decide +kernel
theorem d_Model_init_123 : decode b_Model_init 123 = .ok (.iastore, 1) := by decide +kernel
theorem d_Model_init_124 : decode b_Model_init 124 = .ok (.dup, 1) := by decide +kernel
theorem d_Model_init_125 : decode b_Model_init 125 = .ok (.iconst 3, 1) := by decide +kernel
theorem d_Model_init_126 : decode b_Model_init 126 = .ok (.bipush 99, 2) := by decide +kernel
theorem d_Model_init_128 : decode b_Model_init 128 = .ok (.iastore, 1) := by decide +kernel
theorem d_Model_init_129 : decode b_Model_init 129 = .ok (.dup, 1) := by decide +kernel
theorem d_Model_init_130 : decode b_Model_init 130 = .ok (.iconst 4, 1) := by decide +kernel
theorem d_Model_init_131 : decode b_Model_init 131 = .ok (.bipush 11, 2) := by decide +kernel
theorem d_Model_init_133 : decode b_Model_init 133 = .ok (.iastore, 1) := by decide +kernel
theorem d_Model_init_134 : decode b_Model_init 134 = .ok (.putfield 32, 3) := by decide +kernel
theorem d_Model_init_137 : decode b_Model_init 137 = .ok (.aload_n 0, 1) := by decide +kernel
theorem d_Model_init_138 : decode b_Model_init 138 = .ok (.sipush 700, 3) := by decide +kernel
theorem d_Model_init_141 : decode b_Model_init 141 = .ok (.newarray .int, 2) := by decide +kernel
theorem d_Model_init_143 : decode b_Model_init 143 = .ok (.putfield 35, 3) := by decide +kernel
theorem d_Model_init_146 : decode b_Model_init 146 = .ok (.aload_n 0, 1) := by decide +kernel
theorem d_Model_init_147 : decode b_Model_init 147 = .ok (.iconst (-1), 1) := by decide +kernel
theorem d_Model_init_148 : decode b_Model_init 148 = .ok (.putfield 38, 3) := by decide +kernel
theorem d_Model_init_151 : decode b_Model_init 151 = .ok (.aload_n 0, 1) := by decide +kernel
theorem d_Model_init_152 : decode b_Model_init 152 = .ok (.bipush 40, 2) := by decide +kernel
theorem d_Model_init_154 : decode b_Model_init 154 = .ok (.newarray .int, 2) := by decide +kernel
theorem d_Model_init_156 : decode b_Model_init 156 = .ok (.putfield 42, 3) := by decide +kernel
theorem d_Model_init_159 : decode b_Model_init 159 = .ok (.aload_n 0, 1) := by decide +kernel
theorem d_Model_init_160 : decode b_Model_init 160 = .ok (.invokevirtual 45, 3) := by decide +kernel
theorem d_Model_init_163 : decode b_Model_init 163 = .ok (.return_, 1) := by decide +kernel
theorem nf_9 : ∀ j, j < 24 → defaultValue (zt9 j) = vp_V ([.null, .null, .null, .null, .null, .null, .null, .null, .int 0, .null, .int 0, .int 0, .int 0, .int 0, .int 0, .int 0, .int 0, .int 0, .long 0, .null, .int 0, .int 0, .int 0, .int 0] : List Value) j := fun j hj => by
  rcases (show j = 0 ∨ j = 1 ∨ j = 2 ∨ j = 3 ∨ j = 4 ∨ j = 5 ∨ j = 6 ∨ j = 7 ∨ j = 8 ∨ j = 9 ∨ j = 10 ∨ j = 11 ∨ j = 12 ∨ j = 13 ∨ j = 14 ∨ j = 15 ∨ j = 16 ∨ j = 17 ∨ j = 18 ∨ j = 19 ∨ j = 20 ∨ j = 21 ∨ j = 22 ∨ j = 23 by omega) with rfl | rfl | rfl | rfl | rfl | rfl | rfl | rfl | rfl | rfl | rfl | rfl | rfl | rfl | rfl | rfl | rfl | rfl | rfl | rfl | rfl | rfl | rfl | rfl <;> rfl
theorem zq1262 : (Cond.methodLink "VillageWavesModel" 1 ⟨"java/lang/Object", "<init>", "()V"⟩ : Cond) ∈ zGW := zgw 1262 (by decide +kernel) (by decide +kernel)
theorem zq1340 : (Cond.arrayClass .boolean : Cond) ∈ zGW := zgw 1340 (by decide +kernel) (by decide +kernel)
def nml : List (Nat × Nat) := [(4, 80), (4, 81), (4, 82), (4, 83), (4, 84), (4, 85), (4, 86), (4, 87), (4, 88), (4, 89), (4, 90)]
def nGM (G : zLA) (a : Nat → Nat) : zLA := (G.1, G.2.1, (fun _ o => a o), G.2.2.2.1, G.2.2.2.2.1, nml)
def nAM (h : Nat) (q : Nat → Nat) : Nat → Nat := fun o => match o with
  | 80 => h
  | o => q o
/-- the model's numbers before clear() -/
def nσM : zSt := (fun _ o => match o with
  | 80 => (fun i => match i with
    | 17 => -1
    | _ => 0)
  | 86 => (upd (upd (upd (upd (upd (fun _ => 0) 0 5) 1 1) 2 40) 3 10) 4 11)
  | 87 => (upd (upd (upd (upd (upd (fun _ => 0) 0 1) 1 0) 2 0) 3 1) 4 0)
  | 88 => (upd (upd (upd (upd (upd (fun _ => 0) 0 50) 1 20) 2 200) 3 99) 4 11)
  | _ => (fun _ => 0), fun _ => 0, fun _ => 0)
theorem nml_ok : zLok nml := ⟨by decide +kernel, by decide +kernel⟩
theorem nml_in : ∀ o, 80 ≤ o → o ≤ 90 → (4, o) ∈ nml := by
  intro o h1 h2
  rcases (show o = 80 ∨ o = 81 ∨ o = 82 ∨ o = 83 ∨ o = 84 ∨ o = 85 ∨ o = 86 ∨ o = 87 ∨ o = 88 ∨ o = 89 ∨ o = 90 by omega) with rfl | rfl | rfl | rfl | rfl | rfl | rfl | rfl | rfl | rfl | rfl <;> decide
theorem nGM_ml (G : zLA) (a : Nat → Nat) : zml (nGM G a) := nml_in
abbrev rm_Model_init : Room := { frames := 1, cells := 10, slots := 13717, locals := 40 }
def nw_Model (G : zLA) (h : Nat) (σ : zSt) (q : Nat → Nat) : va_W := zwd (nGM G (nAM h q)) σ
set_option maxRecDepth 100000 in
set_option maxHeartbeats 4000000 in
theorem c_Model_init (l : Launch) (G : zLA) (h : Nat) {σ : zSt} (hF : F_Model_clear nσM = some σ) : nM l G y_Model_init (zws y_Model_init b_Model_init 1 none) rm_Model_init [.ref h] [(h, .inr (9, [.null, .null, .null, .null, .null, .null, .null, .null, .int 0, .null, .int 0, .int 0, .int 0, .int 0, .int 0, .int 0, .int 0, .int 0, .long 0, .null, .int 0, .int 0, .int 0, .int 0]))] (nw_Model G h σ) := by
  refine n_ofM (own := "VillageWavesModel") (lv := [(0, .ref h)]) (by decide) rfl rfl rfl (Nat.le_of_ble_eq_true rfl) (fun p e s m args below meth c C hname => ?_)
  refine n_aload_n C d_Model_init_0 0 rfl rfl ?_
  refine n_obj C zq1262 zq124 zq125 (Nat.le_of_ble_eq_true rfl) (Nat.le_of_ble_eq_true rfl) d_Model_init_1 ?_
  refine n_aload_n C d_Model_init_4 0 rfl rfl ?_
  refine n_sipush (v := 2592) C d_Model_init_5 (by decide) ?_
  refine n_newa (at0 := .int) (ty := .int) (k0 := 0) (N := 2592) (a0 := (2592, .inl (fun _ => 0))) C zq145 rfl (fun _ _ h => h) rfl (fun _ => rfl) (by decide) (by decide) (by decide) (Nat.le_of_ble_eq_true rfl) (Nat.le_of_ble_eq_true rfl) d_Model_init_8 (fun q8 => ?_)
  refine n_putF (ty := .array .int) C hname zin_9 zy9 zn9 rfl 0 (by decide) zq1267 rfl rfl rfl (by decide +kernel) rfl rfl (Nat.le_of_ble_eq_true rfl) d_Model_init_10 ?_
  refine n_aload_n C d_Model_init_13 0 rfl rfl ?_
  refine n_sipush (v := 2592) C d_Model_init_14 (by decide) ?_
  refine n_newa (at0 := .int) (ty := .int) (k0 := 0) (N := 2592) (a0 := (2592, .inl (fun _ => 0))) C zq145 rfl (fun _ _ h => h) rfl (fun _ => rfl) (by decide) (by decide) (by decide) (Nat.le_of_ble_eq_true rfl) (Nat.le_of_ble_eq_true rfl) d_Model_init_17 (fun q17 => ?_)
  refine n_putF (ty := .array .int) C hname zin_9 zy9 zn9 rfl 1 (by decide) zq1268 rfl rfl rfl (by decide +kernel) rfl rfl (Nat.le_of_ble_eq_true rfl) d_Model_init_19 ?_
  refine n_aload_n C d_Model_init_22 0 rfl rfl ?_
  refine n_sipush (v := 2592) C d_Model_init_23 (by decide) ?_
  refine n_newa (at0 := .int) (ty := .int) (k0 := 0) (N := 2592) (a0 := (2592, .inl (fun _ => 0))) C zq145 rfl (fun _ _ h => h) rfl (fun _ => rfl) (by decide) (by decide) (by decide) (Nat.le_of_ble_eq_true rfl) (Nat.le_of_ble_eq_true rfl) d_Model_init_26 (fun q26 => ?_)
  refine n_putF (ty := .array .int) C hname zin_9 zy9 zn9 rfl 2 (by decide) zq1269 rfl rfl rfl (by decide +kernel) rfl rfl (Nat.le_of_ble_eq_true rfl) d_Model_init_28 ?_
  refine n_aload_n C d_Model_init_31 0 rfl rfl ?_
  refine n_sipush (v := 5184) C d_Model_init_32 (by decide) ?_
  refine n_newa (at0 := .int) (ty := .int) (k0 := 0) (N := 5184) (a0 := (5184, .inl (fun _ => 0))) C zq145 rfl (fun _ _ h => h) rfl (fun _ => rfl) (by decide) (by decide) (by decide) (Nat.le_of_ble_eq_true rfl) (Nat.le_of_ble_eq_true rfl) d_Model_init_35 (fun q35 => ?_)
  refine n_putF (ty := .array .int) C hname zin_9 zy9 zn9 rfl 3 (by decide) zq1270 rfl rfl rfl (by decide +kernel) rfl rfl (Nat.le_of_ble_eq_true rfl) d_Model_init_37 ?_
  refine n_aload_n C d_Model_init_40 0 rfl rfl ?_
  refine n_iconst (v := 2) C d_Model_init_41 (by decide) ?_
  refine n_newa (at0 := .boolean) (ty := .boolean) (k0 := 1) (N := 2) (a0 := (2, .inl (fun _ => 0))) C zq1340 rfl (fun _ _ h => h) rfl (fun _ => rfl) (by decide) (by decide) (by decide) (Nat.le_of_ble_eq_true rfl) (Nat.le_of_ble_eq_true rfl) d_Model_init_42 (fun q42 => ?_)
  refine n_putF (ty := .array .boolean) C hname zin_9 zy9 zn9 rfl 4 (by decide) zq1271 rfl rfl rfl (by decide +kernel) rfl rfl (Nat.le_of_ble_eq_true rfl) d_Model_init_44 ?_
  refine n_aload_n C d_Model_init_47 0 rfl rfl ?_
  refine n_iconst (v := 5) C d_Model_init_48 (by decide) ?_
  refine n_newa (at0 := .int) (ty := .int) (k0 := 0) (N := 5) (a0 := (5, .inl (fun _ => 0))) C zq145 rfl (fun _ _ h => h) rfl (fun _ => rfl) (by decide) (by decide) (by decide) (Nat.le_of_ble_eq_true rfl) (Nat.le_of_ble_eq_true rfl) d_Model_init_49 (fun q49 => ?_)
  refine n_dup C d_Model_init_51 rfl ?_
  refine n_iconst (v := 0) C d_Model_init_52 (by decide) ?_
  refine n_iconst (v := 5) C d_Model_init_53 (by decide) ?_
  refine n_iast (j := 0) C (by unfold vp_in; decide) (by decide) d_Model_init_54 ?_
  refine n_dup C d_Model_init_55 rfl ?_
  refine n_iconst (v := 1) C d_Model_init_56 (by decide) ?_
  refine n_iconst (v := 1) C d_Model_init_57 (by decide) ?_
  refine n_iast (j := 1) C (by unfold vp_in; decide) (by decide) d_Model_init_58 ?_
  refine n_dup C d_Model_init_59 rfl ?_
  refine n_iconst (v := 2) C d_Model_init_60 (by decide) ?_
  refine n_bipush (v := 40) C d_Model_init_61 (by decide) ?_
  refine n_iast (j := 2) C (by unfold vp_in; decide) (by decide) d_Model_init_63 ?_
  refine n_dup C d_Model_init_64 rfl ?_
  refine n_iconst (v := 3) C d_Model_init_65 (by decide) ?_
  refine n_bipush (v := 10) C d_Model_init_66 (by decide) ?_
  refine n_iast (j := 3) C (by unfold vp_in; decide) (by decide) d_Model_init_68 ?_
  refine n_dup C d_Model_init_69 rfl ?_
  refine n_iconst (v := 4) C d_Model_init_70 (by decide) ?_
  refine n_bipush (v := 11) C d_Model_init_71 (by decide) ?_
  refine n_iast (j := 4) C (by unfold vp_in; decide) (by decide) d_Model_init_73 ?_
  refine n_putF (ty := .array .int) C hname zin_9 zy9 zn9 rfl 5 (by decide) zq1272 rfl rfl rfl (by decide +kernel) rfl rfl (Nat.le_of_ble_eq_true rfl) d_Model_init_74 ?_
  refine n_aload_n C d_Model_init_77 0 rfl rfl ?_
  refine n_iconst (v := 5) C d_Model_init_78 (by decide) ?_
  refine n_newa (at0 := .int) (ty := .int) (k0 := 0) (N := 5) (a0 := (5, .inl (fun _ => 0))) C zq145 rfl (fun _ _ h => h) rfl (fun _ => rfl) (by decide) (by decide) (by decide) (Nat.le_of_ble_eq_true rfl) (Nat.le_of_ble_eq_true rfl) d_Model_init_79 (fun q79 => ?_)
  refine n_dup C d_Model_init_81 rfl ?_
  refine n_iconst (v := 0) C d_Model_init_82 (by decide) ?_
  refine n_iconst (v := 1) C d_Model_init_83 (by decide) ?_
  refine n_iast (j := 0) C (by unfold vp_in; decide) (by decide) d_Model_init_84 ?_
  refine n_dup C d_Model_init_85 rfl ?_
  refine n_iconst (v := 1) C d_Model_init_86 (by decide) ?_
  refine n_iconst (v := 0) C d_Model_init_87 (by decide) ?_
  refine n_iast (j := 1) C (by unfold vp_in; decide) (by decide) d_Model_init_88 ?_
  refine n_dup C d_Model_init_89 rfl ?_
  refine n_iconst (v := 2) C d_Model_init_90 (by decide) ?_
  refine n_iconst (v := 0) C d_Model_init_91 (by decide) ?_
  refine n_iast (j := 2) C (by unfold vp_in; decide) (by decide) d_Model_init_92 ?_
  refine n_dup C d_Model_init_93 rfl ?_
  refine n_iconst (v := 3) C d_Model_init_94 (by decide) ?_
  refine n_iconst (v := 1) C d_Model_init_95 (by decide) ?_
  refine n_iast (j := 3) C (by unfold vp_in; decide) (by decide) d_Model_init_96 ?_
  refine n_dup C d_Model_init_97 rfl ?_
  refine n_iconst (v := 4) C d_Model_init_98 (by decide) ?_
  refine n_iconst (v := 0) C d_Model_init_99 (by decide) ?_
  refine n_iast (j := 4) C (by unfold vp_in; decide) (by decide) d_Model_init_100 ?_
  refine n_putF (ty := .array .int) C hname zin_9 zy9 zn9 rfl 6 (by decide) zq1273 rfl rfl rfl (by decide +kernel) rfl rfl (Nat.le_of_ble_eq_true rfl) d_Model_init_101 ?_
  refine n_aload_n C d_Model_init_104 0 rfl rfl ?_
  refine n_iconst (v := 5) C d_Model_init_105 (by decide) ?_
  refine n_newa (at0 := .int) (ty := .int) (k0 := 0) (N := 5) (a0 := (5, .inl (fun _ => 0))) C zq145 rfl (fun _ _ h => h) rfl (fun _ => rfl) (by decide) (by decide) (by decide) (Nat.le_of_ble_eq_true rfl) (Nat.le_of_ble_eq_true rfl) d_Model_init_106 (fun q106 => ?_)
  refine n_dup C d_Model_init_108 rfl ?_
  refine n_iconst (v := 0) C d_Model_init_109 (by decide) ?_
  refine n_bipush (v := 50) C d_Model_init_110 (by decide) ?_
  refine n_iast (j := 0) C (by unfold vp_in; decide) (by decide) d_Model_init_112 ?_
  refine n_dup C d_Model_init_113 rfl ?_
  refine n_iconst (v := 1) C d_Model_init_114 (by decide) ?_
  refine n_bipush (v := 20) C d_Model_init_115 (by decide) ?_
  refine n_iast (j := 1) C (by unfold vp_in; decide) (by decide) d_Model_init_117 ?_
  refine n_dup C d_Model_init_118 rfl ?_
  refine n_iconst (v := 2) C d_Model_init_119 (by decide) ?_
  refine n_sipush (v := 200) C d_Model_init_120 (by decide) ?_
  refine n_iast (j := 2) C (by unfold vp_in; decide) (by decide) d_Model_init_123 ?_
  refine n_dup C d_Model_init_124 rfl ?_
  refine n_iconst (v := 3) C d_Model_init_125 (by decide) ?_
  refine n_bipush (v := 99) C d_Model_init_126 (by decide) ?_
  refine n_iast (j := 3) C (by unfold vp_in; decide) (by decide) d_Model_init_128 ?_
  refine n_dup C d_Model_init_129 rfl ?_
  refine n_iconst (v := 4) C d_Model_init_130 (by decide) ?_
  refine n_bipush (v := 11) C d_Model_init_131 (by decide) ?_
  refine n_iast (j := 4) C (by unfold vp_in; decide) (by decide) d_Model_init_133 ?_
  refine n_putF (ty := .array .int) C hname zin_9 zy9 zn9 rfl 7 (by decide) zq1274 rfl rfl rfl (by decide +kernel) rfl rfl (Nat.le_of_ble_eq_true rfl) d_Model_init_134 ?_
  refine n_aload_n C d_Model_init_137 0 rfl rfl ?_
  refine n_sipush (v := 700) C d_Model_init_138 (by decide) ?_
  refine n_newa (at0 := .int) (ty := .int) (k0 := 0) (N := 700) (a0 := (700, .inl (fun _ => 0))) C zq145 rfl (fun _ _ h => h) rfl (fun _ => rfl) (by decide) (by decide) (by decide) (Nat.le_of_ble_eq_true rfl) (Nat.le_of_ble_eq_true rfl) d_Model_init_141 (fun q141 => ?_)
  refine n_putF (ty := .array .int) C hname zin_9 zy9 zn9 rfl 9 (by decide) zq1276 rfl rfl rfl (by decide +kernel) rfl rfl (Nat.le_of_ble_eq_true rfl) d_Model_init_143 ?_
  refine n_aload_n C d_Model_init_146 0 rfl rfl ?_
  refine n_iconst (v := (-1)) C d_Model_init_147 (by decide) ?_
  refine n_put C zin_9 zy9 zn9 rfl 17 (by decide) zq1284 rfl rfl (by decide +kernel) (Nat.le_of_ble_eq_true rfl) d_Model_init_148 ?_
  refine n_aload_n C d_Model_init_151 0 rfl rfl ?_
  refine n_bipush (v := 40) C d_Model_init_152 (by decide) ?_
  refine n_newa (at0 := .int) (ty := .int) (k0 := 0) (N := 40) (a0 := (40, .inl (fun _ => 0))) C zq145 rfl (fun _ _ h => h) rfl (fun _ => rfl) (by decide) (by decide) (by decide) (Nat.le_of_ble_eq_true rfl) (Nat.le_of_ble_eq_true rfl) d_Model_init_154 (fun q154 => ?_)
  refine n_putF (ty := .array .int) C hname zin_9 zy9 zn9 rfl 19 (by decide) zq1286 rfl rfl rfl (by decide +kernel) rfl rfl (Nat.le_of_ble_eq_true rfl) d_Model_init_156 ?_
  refine n_aload_n C d_Model_init_159 0 rfl rfl ?_
  have C' : nCx (nGM G (nAM h (fun i => ([q8, q17, q26, q35, q42, q49, q79, q106, q141, q154] : List Nat).getD (i - 81) 0))) p s m args meth c "VillageWavesModel" b_Model_init 1 none (va_A [(h, .inr (9, [.null, .null, .null, .null, .null, .null, .null, .null, .int 0, .null, .int 0, .int 0, .int 0, .int 0, .int 0, .int 0, .int 0, .int 0, .long 0, .null, .int 0, .int 0, .int 0, .int 0]))] s.heap.size) := C
  refine n_ch (G' := nGM G (nAM h (fun i => ([q8, q17, q26, q35, q42, q49, q79, q106, q141, q154] : List Nat).getD (i - 81) 0))) (ws' := zwd (nGM G (nAM h (fun i => ([q8, q17, q26, q35, q42, q49, q79, q106, q141, q154] : List Nat).getD (i - 81) 0))) nσM) (st' := [.ref (zad (nGM G (nAM h (fun i => ([q8, q17, q26, q35, q42, q49, q79, q106, q141, q154] : List Nat).getD (i - 81) 0))) 4 80)]) rfl rfl rfl ?_
  refine n_callZ (as := []) (rest := []) C' nml_ok kl_Model_45 rfl (c_Model_clear (nGM_ml G _) hF) (nml_in 80 (by decide) (by decide)) rfl rfl rfl (Nat.le_of_ble_eq_true rfl) ⟨(Nat.le_of_ble_eq_true rfl), (Nat.le_of_ble_eq_true rfl)⟩ ⟨(Nat.le_of_ble_eq_true rfl), (Nat.le_of_ble_eq_true rfl)⟩ d_Model_init_160 ?_
  refine n_ch (G' := G) rfl rfl rfl ?_
  exact n_ret C (fun i => ([q8, q17, q26, q35, q42, q49, q79, q106, q141, q154] : List Nat).getD (i - 81) 0) rfl rfl (Nat.le_of_ble_eq_true rfl) (Nat.le_of_ble_eq_true rfl) d_Model_init_163
