abbrev rm_Waves_bit : Room := { frames := 0, cells := 0, slots := 0, locals := 0 }
theorem d_Waves_bit_0 : decode b_Waves_bit 0 = .ok (.iconst 1, 1) := by decide +kernel
theorem d_Waves_bit_1 : decode b_Waves_bit 1 = .ok (.iload_n 0, 1) := by decide +kernel
theorem d_Waves_bit_2 : decode b_Waves_bit 2 = .ok (.ishl, 1) := by decide +kernel
theorem d_Waves_bit_3 : decode b_Waves_bit 3 = .ok (.ireturn, 1) := by decide +kernel
def F_Waves_bit (a0 : Int32) (σ : zSt) : Option (Int32) :=
  some ((1 : Int32) <<< (a0 &&& 31))
set_option maxHeartbeats 4000000 in
set_option maxRecDepth 100000 in
theorem c_Waves_bit {l : Launch} {G : zLA} {a0 : Int32} {σ : zSt} {r : Int32} (hf : F_Waves_bit a0 σ = some r) : zM l G y_Waves_bit (zws y_Waves_bit b_Waves_bit 1 (some .int)) rm_Waves_bit [.int a0] σ (some (.int r)) σ := by
  refine z_ofM (own := "VillageWaves") (lv := [(0, .int a0)]) (by decide +kernel) rfl rfl (Nat.le_of_ble_eq_true rfl) (fun p e s m args below meth c C => ?_)
  rw [F_Waves_bit] at hf
  refine z_iconst C d_Waves_bit_0 zki_1 ?_
  refine z_iload_n C d_Waves_bit_1 0 rfl rfl ?_
  refine z_ishl C d_Waves_bit_2 ?_
  cases hf
  exact z_iret C rfl (Nat.le_of_ble_eq_true rfl) (Nat.le_of_ble_eq_true rfl) d_Waves_bit_3
abbrev rm_Waves_contains : Room := { frames := 0, cells := 0, slots := 0, locals := 0 }
theorem d_Waves_contains_0 : decode b_Waves_contains 0 = .ok (.iload_n 0, 1) := by decide +kernel
theorem d_Waves_contains_1 : decode b_Waves_contains 1 = .ok (.iload_n 1, 1) := by decide +kernel
theorem d_Waves_contains_2 : decode b_Waves_contains 2 = .ok (.ishr, 1) := by decide +kernel
theorem d_Waves_contains_3 : decode b_Waves_contains 3 = .ok (.iconst 1, 1) := by decide +kernel
theorem d_Waves_contains_4 : decode b_Waves_contains 4 = .ok (.iand, 1) := by decide +kernel
theorem d_Waves_contains_5 : decode b_Waves_contains 5 = .ok (.ifCond .eq 7, 3) := by decide +kernel
theorem d_Waves_contains_8 : decode b_Waves_contains 8 = .ok (.iconst 1, 1) := by decide +kernel
theorem d_Waves_contains_9 : decode b_Waves_contains 9 = .ok (.goto 4, 3) := by decide +kernel
theorem d_Waves_contains_12 : decode b_Waves_contains 12 = .ok (.iconst 0, 1) := by decide +kernel
theorem d_Waves_contains_13 : decode b_Waves_contains 13 = .ok (.ireturn, 1) := by decide +kernel
def F_Waves_contains (a0 : Int32) (a1 : Int32) (σ : zSt) : Option (Int32) :=
  if ((a0 >>> (a1 &&& 31)) &&& (1 : Int32)) = 0 then some (0 : Int32) else some (1 : Int32)
set_option maxHeartbeats 4000000 in
set_option maxRecDepth 100000 in
theorem c_Waves_contains {l : Launch} {G : zLA} {a0 : Int32} {a1 : Int32} {σ : zSt} {r : Int32} (hf : F_Waves_contains a0 a1 σ = some r) : zM l G y_Waves_contains (zws y_Waves_contains b_Waves_contains 2 (some .boolean)) rm_Waves_contains [.int a0, .int a1] σ (some (.int r)) σ := by
  refine z_ofM (own := "VillageWaves") (lv := [(0, .int a0), (1, .int a1)]) (by decide +kernel) rfl rfl (Nat.le_of_ble_eq_true rfl) (fun p e s m args below meth c C => ?_)
  rw [F_Waves_contains] at hf
  refine z_iload_n C d_Waves_contains_0 0 rfl rfl ?_
  refine z_iload_n C d_Waves_contains_1 1 rfl rfl ?_
  refine z_ishr C d_Waves_contains_2 ?_
  refine z_iconst C d_Waves_contains_3 zki_1 ?_
  refine z_iand C d_Waves_contains_4 ?_
  refine z_if_eq (tgt := 12) C d_Waves_contains_5 rfl (fun h1 => ?_) (fun h1 => ?_)
  · have hf := iff_t hf h1
    refine z_iconst C d_Waves_contains_12 zki_0 ?_
    cases hf
    exact z_zret C rfl rfl (Nat.le_of_ble_eq_true rfl) (Nat.le_of_ble_eq_true rfl) d_Waves_contains_13
  · have hf := iff_f hf h1
    refine z_iconst C d_Waves_contains_8 zki_1 ?_
    refine z_goto (tgt := 13) C d_Waves_contains_9 rfl ?_
    cases hf
    exact z_zret C rfl rfl (Nat.le_of_ble_eq_true rfl) (Nat.le_of_ble_eq_true rfl) d_Waves_contains_13
abbrev rm_Waves_cell : Room := { frames := 0, cells := 0, slots := 0, locals := 0 }
theorem d_Waves_cell_0 : decode b_Waves_cell 0 = .ok (.iload_n 0, 1) := by decide +kernel
theorem d_Waves_cell_1 : decode b_Waves_cell 1 = .ok (.bipush 20, 2) := by decide +kernel
theorem d_Waves_cell_3 : decode b_Waves_cell 3 = .ok (.imul, 1) := by decide +kernel
theorem d_Waves_cell_4 : decode b_Waves_cell 4 = .ok (.iload_n 1, 1) := by decide +kernel
theorem d_Waves_cell_5 : decode b_Waves_cell 5 = .ok (.iadd, 1) := by decide +kernel
theorem d_Waves_cell_6 : decode b_Waves_cell 6 = .ok (.ireturn, 1) := by decide +kernel
def F_Waves_cell (a0 : Int32) (a1 : Int32) (σ : zSt) : Option (Int32) :=
  some ((a0 * (20 : Int32)) + a1)
set_option maxHeartbeats 4000000 in
set_option maxRecDepth 100000 in
theorem c_Waves_cell {l : Launch} {G : zLA} {a0 : Int32} {a1 : Int32} {σ : zSt} {r : Int32} (hf : F_Waves_cell a0 a1 σ = some r) : zM l G y_Waves_cell (zws y_Waves_cell b_Waves_cell 2 (some .int)) rm_Waves_cell [.int a0, .int a1] σ (some (.int r)) σ := by
  refine z_ofM (own := "VillageWaves") (lv := [(0, .int a0), (1, .int a1)]) (by decide +kernel) rfl rfl (Nat.le_of_ble_eq_true rfl) (fun p e s m args below meth c C => ?_)
  rw [F_Waves_cell] at hf
  refine z_iload_n C d_Waves_cell_0 0 rfl rfl ?_
  refine z_bipush C d_Waves_cell_1 zkb_20 ?_
  refine z_imul C d_Waves_cell_3 ?_
  refine z_iload_n C d_Waves_cell_4 1 rfl rfl ?_
  refine z_iadd C d_Waves_cell_5 ?_
  cases hf
  exact z_iret C rfl (Nat.le_of_ble_eq_true rfl) (Nat.le_of_ble_eq_true rfl) d_Waves_cell_6
abbrev rm_Waves_element : Room := { frames := 0, cells := 0, slots := 0, locals := 0 }
theorem d_Waves_element_0 : decode b_Waves_element 0 = .ok (.iload_n 1, 1) := by decide +kernel
theorem d_Waves_element_1 : decode b_Waves_element 1 = .ok (.ifCond .lt 15, 3) := by decide +kernel
theorem d_Waves_element_4 : decode b_Waves_element 4 = .ok (.iload_n 1, 1) := by decide +kernel
theorem d_Waves_element_5 : decode b_Waves_element 5 = .ok (.aload_n 0, 1) := by decide +kernel
theorem d_Waves_element_6 : decode b_Waves_element 6 = .ok (.arraylength, 1) := by decide +kernel
theorem d_Waves_element_7 : decode b_Waves_element 7 = .ok (.if_icmp .ge 9, 3) := by decide +kernel
theorem d_Waves_element_10 : decode b_Waves_element 10 = .ok (.aload_n 0, 1) := by decide +kernel
theorem d_Waves_element_11 : decode b_Waves_element 11 = .ok (.iload_n 1, 1) := by decide +kernel
theorem d_Waves_element_12 : decode b_Waves_element 12 = .ok (.iaload, 1) := by decide +kernel
theorem d_Waves_element_13 : decode b_Waves_element 13 = .ok (.goto 4, 3) := by decide +kernel
theorem d_Waves_element_16 : decode b_Waves_element 16 = .ok (.iconst 0, 1) := by decide +kernel
theorem d_Waves_element_17 : decode b_Waves_element 17 = .ok (.ireturn, 1) := by decide +kernel
def F_Waves_element (j : Nat) (a1 : Int32) (σ : zSt) : Option (Int32) :=
  if a1 < 0 then some (0 : Int32) else (if (5 : Int32) ≤ a1 then some (0 : Int32) else (if inb a1 5 = true then some ((zfv j).getD a1.toNatClampNeg 0) else none))
set_option maxHeartbeats 4000000 in
set_option maxRecDepth 100000 in
theorem c_Waves_element {l : Launch} {G : zLA} {j : Nat} (hj : j < 3) {a1 : Int32} {σ : zSt} {r : Int32} (hf : F_Waves_element j a1 σ = some r) : zM l G y_Waves_element (zws y_Waves_element b_Waves_element 2 (some .int)) rm_Waves_element [.ref (zsa G j), .int a1] σ (some (.int r)) σ := by
  refine z_ofM (own := "VillageWaves") (lv := [(0, .ref (zsa G j)), (1, .int a1)]) (by decide +kernel) rfl rfl (Nat.le_of_ble_eq_true rfl) (fun p e s m args below meth c C => ?_)
  rw [F_Waves_element] at hf
  refine z_iload_n C d_Waves_element_0 1 rfl rfl ?_
  refine z_if_lt (tgt := 16) C d_Waves_element_1 rfl (fun h3 => ?_) (fun h3 => ?_)
  · have hf := iff_t hf h3
    refine z_iconst C d_Waves_element_16 zki_0 ?_
    cases hf
    exact z_iret C rfl (Nat.le_of_ble_eq_true rfl) (Nat.le_of_ble_eq_true rfl) d_Waves_element_17
  · have hf := iff_f hf h3
    refine z_iload_n C d_Waves_element_4 1 rfl rfl ?_
    refine z_aload_n C d_Waves_element_5 0 rfl rfl ?_
    refine z_salen C j hj d_Waves_element_6 ?_
    refine z_icmp_ge (tgt := 16) C d_Waves_element_7 rfl (fun h2 => ?_) (fun h2 => ?_)
    · have hf := iff_t hf h2
      refine z_iconst C d_Waves_element_16 zki_0 ?_
      cases hf
      exact z_iret C rfl (Nat.le_of_ble_eq_true rfl) (Nat.le_of_ble_eq_true rfl) d_Waves_element_17
    · have hf := iff_f hf h2
      refine z_aload_n C d_Waves_element_10 0 rfl rfl ?_
      refine z_iload_n C d_Waves_element_11 1 rfl rfl ?_
      obtain ⟨h1, hf⟩ := iff_g hf
      refine z_sald C j hj (inb_in h1) d_Waves_element_12 ?_
      refine z_goto (tgt := 17) C d_Waves_element_13 rfl ?_
      cases hf
      exact z_iret C rfl (Nat.le_of_ble_eq_true rfl) (Nat.le_of_ble_eq_true rfl) d_Waves_element_17
abbrev rm_Journal_clear : Room := { frames := 0, cells := 0, slots := 0, locals := 0 }
theorem d_Journal_clear_0 : decode b_Journal_clear 0 = .ok (.aload_n 0, 1) := by decide +kernel
theorem d_Journal_clear_1 : decode b_Journal_clear 1 = .ok (.iconst 0, 1) := by decide +kernel
theorem d_Journal_clear_2 : decode b_Journal_clear 2 = .ok (.putfield 9, 3) := by decide +kernel
theorem d_Journal_clear_5 : decode b_Journal_clear 5 = .ok (.return_, 1) := by decide +kernel
def F_Journal_clear (v : Nat) (σ : zSt) : Option (zSt) :=
  some (zst σ v 59 0 (0 : Int32))
set_option maxHeartbeats 4000000 in
set_option maxRecDepth 100000 in
theorem c_Journal_clear {l : Launch} {G : zLA} {v : Nat} (hv : zvl G v) {σ : zSt} {σ' : zSt} (hf : F_Journal_clear v σ = some σ') : zM l G y_Journal_clear (zws y_Journal_clear b_Journal_clear 1 none) rm_Journal_clear [.ref (zad G v 59)] σ none σ' := by
  refine z_ofM (own := "VillageWaves$Journal") (lv := [(0, .ref (zad G v 59))]) (by decide +kernel) rfl rfl (Nat.le_of_ble_eq_true rfl) (fun p e s m args below meth c C => ?_)
  rw [F_Journal_clear] at hf
  refine z_aload_n C d_Journal_clear_0 0 rfl rfl ?_
  refine z_iconst C d_Journal_clear_1 zki_0 ?_
  refine pf_Journal_9 C (zlv hv 59 rfl) rfl (Nat.le_of_ble_eq_true rfl) rfl d_Journal_clear_2 ?_
  cases hf
  exact z_vret C rfl (Nat.le_of_ble_eq_true rfl) (Nat.le_of_ble_eq_true rfl) d_Journal_clear_5
abbrev rm_Journal_copyFrom : Room := { frames := 2, cells := 0, slots := 0, locals := 111 }
theorem d_Journal_copyFrom_0 : decode b_Journal_copyFrom 0 = .ok (.aload_n 0, 1) := by decide +kernel
theorem d_Journal_copyFrom_1 : decode b_Journal_copyFrom 1 = .ok (.aload_n 1, 1) := by decide +kernel
theorem d_Journal_copyFrom_2 : decode b_Journal_copyFrom 2 = .ok (.getfield 9, 3) := by decide +kernel
theorem d_Journal_copyFrom_5 : decode b_Journal_copyFrom 5 = .ok (.putfield 9, 3) := by decide +kernel
theorem d_Journal_copyFrom_8 : decode b_Journal_copyFrom 8 = .ok (.aload_n 0, 1) := by decide +kernel
theorem d_Journal_copyFrom_9 : decode b_Journal_copyFrom 9 = .ok (.getfield 20, 3) := by decide +kernel
theorem d_Journal_copyFrom_12 : decode b_Journal_copyFrom 12 = .ok (.aload_n 1, 1) := by decide +kernel
theorem d_Journal_copyFrom_13 : decode b_Journal_copyFrom 13 = .ok (.getfield 20, 3) := by decide +kernel
theorem d_Journal_copyFrom_16 : decode b_Journal_copyFrom 16 = .ok (.invokevirtual 24, 3) := by decide +kernel
theorem d_Journal_copyFrom_19 : decode b_Journal_copyFrom 19 = .ok (.return_, 1) := by decide +kernel
def F_Journal_copyFrom (v : Nat) (v2 : Nat) (σ : zSt) : Option (zSt) :=
  (F_Row_copyFrom v 60 v2 60 (zst σ v 59 0 (σ.1 v2 59 0))).bind fun σ2 => some σ2
set_option maxHeartbeats 4000000 in
set_option maxRecDepth 100000 in
theorem c_Journal_copyFrom {l : Launch} {G : zLA} {v : Nat} (hv : zvl G v) {v2 : Nat} (hv2 : zvl G v2) {σ : zSt} {σ' : zSt} (hf : F_Journal_copyFrom v v2 σ = some σ') : zM l G y_Journal_copyFrom (zws y_Journal_copyFrom b_Journal_copyFrom 2 none) rm_Journal_copyFrom [.ref (zad G v 59), .ref (zad G v2 59)] σ none σ' := by
  refine z_ofM (own := "VillageWaves$Journal") (lv := [(0, .ref (zad G v 59)), (1, .ref (zad G v2 59))]) (by decide +kernel) rfl rfl (Nat.le_of_ble_eq_true rfl) (fun p e s m args below meth c C => ?_)
  rw [F_Journal_copyFrom] at hf
  refine z_aload_n C d_Journal_copyFrom_0 0 rfl rfl ?_
  refine z_aload_n C d_Journal_copyFrom_1 1 rfl rfl ?_
  refine gf_Journal_9 C (zlv hv2 59 rfl) rfl rfl d_Journal_copyFrom_2 ?_
  refine pf_Journal_9 C (zlv hv 59 rfl) rfl (Nat.le_of_ble_eq_true rfl) rfl d_Journal_copyFrom_5 ?_
  refine z_aload_n C d_Journal_copyFrom_8 0 rfl rfl ?_
  refine gf_Journal_20 C (zlv hv 59 rfl) rfl rfl d_Journal_copyFrom_9 ?_
  refine z_aload_n C d_Journal_copyFrom_12 1 rfl rfl ?_
  refine gf_Journal_20 C (zlv hv2 59 rfl) rfl rfl d_Journal_copyFrom_13 ?_
  obtain ⟨σ2, h1, hf⟩ := bd_s hf
  refine z_cVv C kl_Journal_24 rfl (c_Row_copyFrom (zrow_v hv 60 rfl) (zrow_v hv2 60 rfl) h1) (zlv hv 60 rfl) rfl rfl rfl (Nat.le_of_ble_eq_true rfl) ⟨(Nat.le_of_ble_eq_true rfl), (Nat.le_of_ble_eq_true rfl)⟩ ⟨(Nat.le_of_ble_eq_true rfl), (Nat.le_of_ble_eq_true rfl)⟩ d_Journal_copyFrom_16 ?_
  cases hf
  exact z_vret C rfl (Nat.le_of_ble_eq_true rfl) (Nat.le_of_ble_eq_true rfl) d_Journal_copyFrom_19
abbrev rm_Journal_add : Room := { frames := 1, cells := 0, slots := 0, locals := 22 }
theorem d_Journal_add_0 : decode b_Journal_add 0 = .ok (.aload_n 0, 1) := by decide +kernel
theorem d_Journal_add_1 : decode b_Journal_add 1 = .ok (.getfield 9, 3) := by decide +kernel
theorem d_Journal_add_4 : decode b_Journal_add 4 = .ok (.bipush 30, 2) := by decide +kernel
theorem d_Journal_add_6 : decode b_Journal_add 6 = .ok (.irem, 1) := by decide +kernel
theorem d_Journal_add_7 : decode b_Journal_add 7 = .ok (.bipush 6, 2) := by decide +kernel
theorem d_Journal_add_9 : decode b_Journal_add 9 = .ok (.imul, 1) := by decide +kernel
theorem d_Journal_add_10 : decode b_Journal_add 10 = .ok (.istore 7, 2) := by decide +kernel
theorem d_Journal_add_12 : decode b_Journal_add 12 = .ok (.aload_n 0, 1) := by decide +kernel
theorem d_Journal_add_13 : decode b_Journal_add 13 = .ok (.getfield 20, 3) := by decide +kernel
theorem d_Journal_add_16 : decode b_Journal_add 16 = .ok (.iload 7, 2) := by decide +kernel
theorem d_Journal_add_18 : decode b_Journal_add 18 = .ok (.iload_n 1, 1) := by decide +kernel
theorem d_Journal_add_19 : decode b_Journal_add 19 = .ok (.invokevirtual 28, 3) := by decide +kernel
theorem d_Journal_add_22 : decode b_Journal_add 22 = .ok (.aload_n 0, 1) := by decide +kernel
theorem d_Journal_add_23 : decode b_Journal_add 23 = .ok (.getfield 20, 3) := by decide +kernel
theorem d_Journal_add_26 : decode b_Journal_add 26 = .ok (.iload 7, 2) := by decide +kernel
theorem d_Journal_add_28 : decode b_Journal_add 28 = .ok (.iconst 1, 1) := by decide +kernel
theorem d_Journal_add_29 : decode b_Journal_add 29 = .ok (.iadd, 1) := by decide +kernel
theorem d_Journal_add_30 : decode b_Journal_add 30 = .ok (.iload_n 2, 1) := by decide +kernel
theorem d_Journal_add_31 : decode b_Journal_add 31 = .ok (.invokevirtual 28, 3) := by decide +kernel
theorem d_Journal_add_34 : decode b_Journal_add 34 = .ok (.aload_n 0, 1) := by decide +kernel
theorem d_Journal_add_35 : decode b_Journal_add 35 = .ok (.getfield 20, 3) := by decide +kernel
theorem d_Journal_add_38 : decode b_Journal_add 38 = .ok (.iload 7, 2) := by decide +kernel
theorem d_Journal_add_40 : decode b_Journal_add 40 = .ok (.iconst 2, 1) := by decide +kernel
theorem d_Journal_add_41 : decode b_Journal_add 41 = .ok (.iadd, 1) := by decide +kernel
theorem d_Journal_add_42 : decode b_Journal_add 42 = .ok (.iload_n 3, 1) := by decide +kernel
theorem d_Journal_add_43 : decode b_Journal_add 43 = .ok (.invokevirtual 28, 3) := by decide +kernel
theorem d_Journal_add_46 : decode b_Journal_add 46 = .ok (.aload_n 0, 1) := by decide +kernel
theorem d_Journal_add_47 : decode b_Journal_add 47 = .ok (.getfield 20, 3) := by decide +kernel
theorem d_Journal_add_50 : decode b_Journal_add 50 = .ok (.iload 7, 2) := by decide +kernel
theorem d_Journal_add_52 : decode b_Journal_add 52 = .ok (.iconst 3, 1) := by decide +kernel
theorem d_Journal_add_53 : decode b_Journal_add 53 = .ok (.iadd, 1) := by decide +kernel
theorem d_Journal_add_54 : decode b_Journal_add 54 = .ok (.iload 4, 2) := by decide +kernel
theorem d_Journal_add_56 : decode b_Journal_add 56 = .ok (.invokevirtual 28, 3) := by decide +kernel
theorem d_Journal_add_59 : decode b_Journal_add 59 = .ok (.aload_n 0, 1) := by decide +kernel
theorem d_Journal_add_60 : decode b_Journal_add 60 = .ok (.getfield 20, 3) := by decide +kernel
theorem d_Journal_add_63 : decode b_Journal_add 63 = .ok (.iload 7, 2) := by decide +kernel
theorem d_Journal_add_65 : decode b_Journal_add 65 = .ok (.iconst 4, 1) := by decide +kernel
theorem d_Journal_add_66 : decode b_Journal_add 66 = .ok (.iadd, 1) := by decide +kernel
theorem d_Journal_add_67 : decode b_Journal_add 67 = .ok (.iload 5, 2) := by decide +kernel
theorem d_Journal_add_69 : decode b_Journal_add 69 = .ok (.invokevirtual 28, 3) := by decide +kernel
theorem d_Journal_add_72 : decode b_Journal_add 72 = .ok (.aload_n 0, 1) := by decide +kernel
theorem d_Journal_add_73 : decode b_Journal_add 73 = .ok (.getfield 20, 3) := by decide +kernel
theorem d_Journal_add_76 : decode b_Journal_add 76 = .ok (.iload 7, 2) := by decide +kernel
theorem d_Journal_add_78 : decode b_Journal_add 78 = .ok (.iconst 5, 1) := by decide +kernel
theorem d_Journal_add_79 : decode b_Journal_add 79 = .ok (.iadd, 1) := by decide +kernel
theorem d_Journal_add_80 : decode b_Journal_add 80 = .ok (.iload 6, 2) := by decide +kernel
theorem d_Journal_add_82 : decode b_Journal_add 82 = .ok (.invokevirtual 28, 3) := by decide +kernel
theorem d_Journal_add_85 : decode b_Journal_add 85 = .ok (.aload_n 0, 1) := by decide +kernel
theorem d_Journal_add_86 : decode b_Journal_add 86 = .ok (.dup, 1) := by decide +kernel
theorem d_Journal_add_87 : decode b_Journal_add 87 = .ok (.getfield 9, 3) := by decide +kernel
theorem d_Journal_add_90 : decode b_Journal_add 90 = .ok (.iconst 1, 1) := by decide +kernel
theorem d_Journal_add_91 : decode b_Journal_add 91 = .ok (.iadd, 1) := by decide +kernel
theorem d_Journal_add_92 : decode b_Journal_add 92 = .ok (.putfield 9, 3) := by decide +kernel
theorem d_Journal_add_95 : decode b_Journal_add 95 = .ok (.return_, 1) := by decide +kernel
def F_Journal_add (v : Nat) (a0 : Int32) (a1 : Int32) (a2 : Int32) (a3 : Int32) (a4 : Int32) (a5 : Int32) (σ : zSt) : Option (zSt) :=
  (F_Row_put v 60 (((σ.1 v 59 0) - (σ.1 v 59 0) / (30 : Int32) * (30 : Int32)) * (6 : Int32)) a0 σ).bind fun σ2 => (F_Row_put v 60 ((((σ.1 v 59 0) - (σ.1 v 59 0) / (30 : Int32) * (30 : Int32)) * (6 : Int32)) + (1 : Int32)) a1 σ2).bind fun σ4 => (F_Row_put v 60 ((((σ.1 v 59 0) - (σ.1 v 59 0) / (30 : Int32) * (30 : Int32)) * (6 : Int32)) + (2 : Int32)) a2 σ4).bind fun σ6 => (F_Row_put v 60 ((((σ.1 v 59 0) - (σ.1 v 59 0) / (30 : Int32) * (30 : Int32)) * (6 : Int32)) + (3 : Int32)) a3 σ6).bind fun σ8 => (F_Row_put v 60 ((((σ.1 v 59 0) - (σ.1 v 59 0) / (30 : Int32) * (30 : Int32)) * (6 : Int32)) + (4 : Int32)) a4 σ8).bind fun σ10 => (F_Row_put v 60 ((((σ.1 v 59 0) - (σ.1 v 59 0) / (30 : Int32) * (30 : Int32)) * (6 : Int32)) + (5 : Int32)) a5 σ10).bind fun σ12 => some (zst σ12 v 59 0 ((σ12.1 v 59 0) + (1 : Int32)))
set_option maxHeartbeats 4000000 in
set_option maxRecDepth 100000 in
theorem c_Journal_add {l : Launch} {G : zLA} {v : Nat} (hv : zvl G v) {a0 : Int32} {a1 : Int32} {a2 : Int32} {a3 : Int32} {a4 : Int32} {a5 : Int32} {σ : zSt} {σ' : zSt} (hf : F_Journal_add v a0 a1 a2 a3 a4 a5 σ = some σ') : zM l G y_Journal_add (zws y_Journal_add b_Journal_add 8 none) rm_Journal_add [.ref (zad G v 59), .int a0, .int a1, .int a2, .int a3, .int a4, .int a5] σ none σ' := by
  refine z_ofM (own := "VillageWaves$Journal") (lv := [(0, .ref (zad G v 59)), (1, .int a0), (2, .int a1), (3, .int a2), (4, .int a3), (5, .int a4), (6, .int a5)]) (by decide +kernel) rfl rfl (Nat.le_of_ble_eq_true rfl) (fun p e s m args below meth c C => ?_)
  rw [F_Journal_add] at hf
  refine z_aload_n C d_Journal_add_0 0 rfl rfl ?_
  refine gf_Journal_9 C (zlv hv 59 rfl) rfl rfl d_Journal_add_1 ?_
  refine z_bipush C d_Journal_add_4 zkb_30 ?_
  refine z_irem C d_Journal_add_6 (by decide) ?_
  refine z_bipush C d_Journal_add_7 zkb_6 ?_
  refine z_imul C d_Journal_add_9 ?_
  refine z_istore C d_Journal_add_10 (by decide) ?_
  refine z_aload_n C d_Journal_add_12 1 rfl rfl ?_
  refine gf_Journal_20 C (zlv hv 59 rfl) rfl rfl d_Journal_add_13 ?_
  refine z_iload C d_Journal_add_16 0 rfl ?_
  refine z_iload_n C d_Journal_add_18 2 rfl rfl ?_
  obtain ⟨σ2, h1, hf⟩ := bd_s hf
  refine z_cVv C kl_Journal_28 rfl (c_Row_put (zrow_v hv 60 rfl) h1) (zlv hv 60 rfl) rfl rfl rfl (Nat.le_of_ble_eq_true rfl) ⟨(Nat.le_of_ble_eq_true rfl), (Nat.le_of_ble_eq_true rfl)⟩ ⟨(Nat.le_of_ble_eq_true rfl), (Nat.le_of_ble_eq_true rfl)⟩ d_Journal_add_19 ?_
  refine z_aload_n C d_Journal_add_22 1 rfl rfl ?_
  refine gf_Journal_20 C (zlv hv 59 rfl) rfl rfl d_Journal_add_23 ?_
  refine z_iload C d_Journal_add_26 0 rfl ?_
  refine z_iconst C d_Journal_add_28 zki_1 ?_
  refine z_iadd C d_Journal_add_29 ?_
  refine z_iload_n C d_Journal_add_30 3 rfl rfl ?_
  obtain ⟨σ4, h3, hf⟩ := bd_s hf
  refine z_cVv C kl_Journal_28 rfl (c_Row_put (zrow_v hv 60 rfl) h3) (zlv hv 60 rfl) rfl rfl rfl (Nat.le_of_ble_eq_true rfl) ⟨(Nat.le_of_ble_eq_true rfl), (Nat.le_of_ble_eq_true rfl)⟩ ⟨(Nat.le_of_ble_eq_true rfl), (Nat.le_of_ble_eq_true rfl)⟩ d_Journal_add_31 ?_
  refine z_aload_n C d_Journal_add_34 1 rfl rfl ?_
  refine gf_Journal_20 C (zlv hv 59 rfl) rfl rfl d_Journal_add_35 ?_
  refine z_iload C d_Journal_add_38 0 rfl ?_
  refine z_iconst C d_Journal_add_40 zki_2 ?_
  refine z_iadd C d_Journal_add_41 ?_
  refine z_iload_n C d_Journal_add_42 4 rfl rfl ?_
  obtain ⟨σ6, h5, hf⟩ := bd_s hf
  refine z_cVv C kl_Journal_28 rfl (c_Row_put (zrow_v hv 60 rfl) h5) (zlv hv 60 rfl) rfl rfl rfl (Nat.le_of_ble_eq_true rfl) ⟨(Nat.le_of_ble_eq_true rfl), (Nat.le_of_ble_eq_true rfl)⟩ ⟨(Nat.le_of_ble_eq_true rfl), (Nat.le_of_ble_eq_true rfl)⟩ d_Journal_add_43 ?_
  refine z_aload_n C d_Journal_add_46 1 rfl rfl ?_
  refine gf_Journal_20 C (zlv hv 59 rfl) rfl rfl d_Journal_add_47 ?_
  refine z_iload C d_Journal_add_50 0 rfl ?_
  refine z_iconst C d_Journal_add_52 zki_3 ?_
  refine z_iadd C d_Journal_add_53 ?_
  refine z_iload C d_Journal_add_54 5 rfl ?_
  obtain ⟨σ8, h7, hf⟩ := bd_s hf
  refine z_cVv C kl_Journal_28 rfl (c_Row_put (zrow_v hv 60 rfl) h7) (zlv hv 60 rfl) rfl rfl rfl (Nat.le_of_ble_eq_true rfl) ⟨(Nat.le_of_ble_eq_true rfl), (Nat.le_of_ble_eq_true rfl)⟩ ⟨(Nat.le_of_ble_eq_true rfl), (Nat.le_of_ble_eq_true rfl)⟩ d_Journal_add_56 ?_
  refine z_aload_n C d_Journal_add_59 1 rfl rfl ?_
  refine gf_Journal_20 C (zlv hv 59 rfl) rfl rfl d_Journal_add_60 ?_
  refine z_iload C d_Journal_add_63 0 rfl ?_
  refine z_iconst C d_Journal_add_65 zki_4 ?_
  refine z_iadd C d_Journal_add_66 ?_
  refine z_iload C d_Journal_add_67 6 rfl ?_
  obtain ⟨σ10, h9, hf⟩ := bd_s hf
  refine z_cVv C kl_Journal_28 rfl (c_Row_put (zrow_v hv 60 rfl) h9) (zlv hv 60 rfl) rfl rfl rfl (Nat.le_of_ble_eq_true rfl) ⟨(Nat.le_of_ble_eq_true rfl), (Nat.le_of_ble_eq_true rfl)⟩ ⟨(Nat.le_of_ble_eq_true rfl), (Nat.le_of_ble_eq_true rfl)⟩ d_Journal_add_69 ?_
  refine z_aload_n C d_Journal_add_72 1 rfl rfl ?_
  refine gf_Journal_20 C (zlv hv 59 rfl) rfl rfl d_Journal_add_73 ?_
  refine z_iload C d_Journal_add_76 0 rfl ?_
  refine z_iconst C d_Journal_add_78 zki_5 ?_
  refine z_iadd C d_Journal_add_79 ?_
  refine z_iload C d_Journal_add_80 7 rfl ?_
  obtain ⟨σ12, h11, hf⟩ := bd_s hf
  refine z_cVv C kl_Journal_28 rfl (c_Row_put (zrow_v hv 60 rfl) h11) (zlv hv 60 rfl) rfl rfl rfl (Nat.le_of_ble_eq_true rfl) ⟨(Nat.le_of_ble_eq_true rfl), (Nat.le_of_ble_eq_true rfl)⟩ ⟨(Nat.le_of_ble_eq_true rfl), (Nat.le_of_ble_eq_true rfl)⟩ d_Journal_add_82 ?_
  refine z_aload_n C d_Journal_add_85 1 rfl rfl ?_
  refine z_dup C d_Journal_add_86 rfl ?_
  refine gf_Journal_9 C (zlv hv 59 rfl) rfl rfl d_Journal_add_87 ?_
  refine z_iconst C d_Journal_add_90 zki_1 ?_
  refine z_iadd C d_Journal_add_91 ?_
  refine pf_Journal_9 C (zlv hv 59 rfl) rfl (Nat.le_of_ble_eq_true rfl) rfl d_Journal_add_92 ?_
  cases hf
  exact z_vret C rfl (Nat.le_of_ble_eq_true rfl) (Nat.le_of_ble_eq_true rfl) d_Journal_add_95
abbrev rm_Journal_fact : Room := { frames := 1, cells := 0, slots := 0, locals := 21 }
theorem d_Journal_fact_0 : decode b_Journal_fact 0 = .ok (.iload_n 1, 1) := by decide +kernel
theorem d_Journal_fact_1 : decode b_Journal_fact 1 = .ok (.bipush 30, 2) := by decide +kernel
theorem d_Journal_fact_3 : decode b_Journal_fact 3 = .ok (.if_icmp .ge 11, 3) := by decide +kernel
theorem d_Journal_fact_6 : decode b_Journal_fact 6 = .ok (.iload_n 1, 1) := by decide +kernel
theorem d_Journal_fact_7 : decode b_Journal_fact 7 = .ok (.aload_n 0, 1) := by decide +kernel
theorem d_Journal_fact_8 : decode b_Journal_fact 8 = .ok (.getfield 9, 3) := by decide +kernel
theorem d_Journal_fact_11 : decode b_Journal_fact 11 = .ok (.if_icmp .lt 5, 3) := by decide +kernel
theorem d_Journal_fact_14 : decode b_Journal_fact 14 = .ok (.iconst (-1), 1) := by decide +kernel
theorem d_Journal_fact_15 : decode b_Journal_fact 15 = .ok (.ireturn, 1) := by decide +kernel
theorem d_Journal_fact_16 : decode b_Journal_fact 16 = .ok (.aload_n 0, 1) := by decide +kernel
theorem d_Journal_fact_17 : decode b_Journal_fact 17 = .ok (.getfield 20, 3) := by decide +kernel
theorem d_Journal_fact_20 : decode b_Journal_fact 20 = .ok (.aload_n 0, 1) := by decide +kernel
theorem d_Journal_fact_21 : decode b_Journal_fact 21 = .ok (.getfield 9, 3) := by decide +kernel
theorem d_Journal_fact_24 : decode b_Journal_fact 24 = .ok (.iconst 1, 1) := by decide +kernel
theorem d_Journal_fact_25 : decode b_Journal_fact 25 = .ok (.isub, 1) := by decide +kernel
theorem d_Journal_fact_26 : decode b_Journal_fact 26 = .ok (.iload_n 1, 1) := by decide +kernel
theorem d_Journal_fact_27 : decode b_Journal_fact 27 = .ok (.isub, 1) := by decide +kernel
theorem d_Journal_fact_28 : decode b_Journal_fact 28 = .ok (.bipush 30, 2) := by decide +kernel
theorem d_Journal_fact_30 : decode b_Journal_fact 30 = .ok (.irem, 1) := by decide +kernel
theorem d_Journal_fact_31 : decode b_Journal_fact 31 = .ok (.bipush 6, 2) := by decide +kernel
theorem d_Journal_fact_33 : decode b_Journal_fact 33 = .ok (.imul, 1) := by decide +kernel
theorem d_Journal_fact_34 : decode b_Journal_fact 34 = .ok (.iload_n 2, 1) := by decide +kernel
theorem d_Journal_fact_35 : decode b_Journal_fact 35 = .ok (.iadd, 1) := by decide +kernel
theorem d_Journal_fact_36 : decode b_Journal_fact 36 = .ok (.invokevirtual 32, 3) := by decide +kernel
theorem d_Journal_fact_39 : decode b_Journal_fact 39 = .ok (.ireturn, 1) := by decide +kernel
def F_Journal_fact (v : Nat) (a0 : Int32) (a1 : Int32) (σ : zSt) : Option (Int32) :=
  if (30 : Int32) ≤ a0 then some (-1 : Int32) else (if a0 < (σ.1 v 59 0) then ((F_Row_get v 60 ((((((σ.1 v 59 0) - (1 : Int32)) - a0) - (((σ.1 v 59 0) - (1 : Int32)) - a0) / (30 : Int32) * (30 : Int32)) * (6 : Int32)) + a1) σ).bind fun r2 => some r2) else some (-1 : Int32))
set_option maxHeartbeats 4000000 in
set_option maxRecDepth 100000 in
theorem c_Journal_fact {l : Launch} {G : zLA} {v : Nat} (hv : zvl G v) {a0 : Int32} {a1 : Int32} {σ : zSt} {r : Int32} (hf : F_Journal_fact v a0 a1 σ = some r) : zM l G y_Journal_fact (zws y_Journal_fact b_Journal_fact 3 (some .int)) rm_Journal_fact [.ref (zad G v 59), .int a0, .int a1] σ (some (.int r)) σ := by
  refine z_ofM (own := "VillageWaves$Journal") (lv := [(0, .ref (zad G v 59)), (1, .int a0), (2, .int a1)]) (by decide +kernel) rfl rfl (Nat.le_of_ble_eq_true rfl) (fun p e s m args below meth c C => ?_)
  rw [F_Journal_fact] at hf
  refine z_iload_n C d_Journal_fact_0 1 rfl rfl ?_
  refine z_bipush C d_Journal_fact_1 zkb_30 ?_
  refine z_icmp_ge (tgt := 14) C d_Journal_fact_3 rfl (fun h4 => ?_) (fun h4 => ?_)
  · have hf := iff_t hf h4
    refine z_iconst C d_Journal_fact_14 zki_m1 ?_
    cases hf
    exact z_iret C rfl (Nat.le_of_ble_eq_true rfl) (Nat.le_of_ble_eq_true rfl) d_Journal_fact_15
  · have hf := iff_f hf h4
    refine z_iload_n C d_Journal_fact_6 1 rfl rfl ?_
    refine z_aload_n C d_Journal_fact_7 0 rfl rfl ?_
    refine gf_Journal_9 C (zlv hv 59 rfl) rfl rfl d_Journal_fact_8 ?_
    refine z_icmp_lt (tgt := 16) C d_Journal_fact_11 rfl (fun h3 => ?_) (fun h3 => ?_)
    · have hf := iff_t hf h3
      refine z_aload_n C d_Journal_fact_16 0 rfl rfl ?_
      refine gf_Journal_20 C (zlv hv 59 rfl) rfl rfl d_Journal_fact_17 ?_
      refine z_aload_n C d_Journal_fact_20 0 rfl rfl ?_
      refine gf_Journal_9 C (zlv hv 59 rfl) rfl rfl d_Journal_fact_21 ?_
      refine z_iconst C d_Journal_fact_24 zki_1 ?_
      refine z_isub C d_Journal_fact_25 ?_
      refine z_iload_n C d_Journal_fact_26 1 rfl rfl ?_
      refine z_isub C d_Journal_fact_27 ?_
      refine z_bipush C d_Journal_fact_28 zkb_30 ?_
      refine z_irem C d_Journal_fact_30 (by decide) ?_
      refine z_bipush C d_Journal_fact_31 zkb_6 ?_
      refine z_imul C d_Journal_fact_33 ?_
      refine z_iload_n C d_Journal_fact_34 2 rfl rfl ?_
      refine z_iadd C d_Journal_fact_35 ?_
      obtain ⟨r2, h1, hf⟩ := bd_s hf
      refine z_cVi C kl_Journal_32 rfl (c_Row_get (zrow_v hv 60 rfl) h1) (zlv hv 60 rfl) rfl rfl rfl (Nat.le_of_ble_eq_true rfl) ⟨(Nat.le_of_ble_eq_true rfl), (Nat.le_of_ble_eq_true rfl)⟩ ⟨(Nat.le_of_ble_eq_true rfl), (Nat.le_of_ble_eq_true rfl)⟩ d_Journal_fact_36 ?_
      cases hf
      exact z_iret C rfl (Nat.le_of_ble_eq_true rfl) (Nat.le_of_ble_eq_true rfl) d_Journal_fact_39
    · have hf := iff_f hf h3
      refine z_iconst C d_Journal_fact_14 zki_m1 ?_
      cases hf
      exact z_iret C rfl (Nat.le_of_ble_eq_true rfl) (Nat.le_of_ble_eq_true rfl) d_Journal_fact_15
abbrev rm_Entries_clear : Room := { frames := 2, cells := 0, slots := 0, locals := 44 }
theorem d_Entries_clear_0 : decode b_Entries_clear 0 = .ok (.aload_n 0, 1) := by decide +kernel
theorem d_Entries_clear_1 : decode b_Entries_clear 1 = .ok (.getfield 14, 3) := by decide +kernel
theorem d_Entries_clear_4 : decode b_Entries_clear 4 = .ok (.iconst 0, 1) := by decide +kernel
theorem d_Entries_clear_5 : decode b_Entries_clear 5 = .ok (.invokevirtual 23, 3) := by decide +kernel
theorem d_Entries_clear_8 : decode b_Entries_clear 8 = .ok (.return_, 1) := by decide +kernel
def F_Entries_clear (v : Nat) (o : Nat) (σ : zSt) : Option (zSt) :=
  (F_Row_fill v (o + 1) (0 : Int32) σ).bind fun σ2 => some σ2
set_option maxHeartbeats 4000000 in
set_option maxRecDepth 100000 in
theorem c_Entries_clear {l : Launch} {G : zLA} {v : Nat} (hv : zvl G v) {o : Nat} (ho : zent o) {σ : zSt} {σ' : zSt} (hf : F_Entries_clear v o σ = some σ') : zM l G y_Entries_clear (zws y_Entries_clear b_Entries_clear 1 none) rm_Entries_clear [.ref (zad G v o)] σ none σ' := by
  refine z_ofM (own := "VillageWaves$Entries") (lv := [(0, .ref (zad G v o))]) (by decide +kernel) rfl rfl (Nat.le_of_ble_eq_true rfl) (fun p e s m args below meth c C => ?_)
  rw [F_Entries_clear] at hf
  refine z_aload_n C d_Entries_clear_0 0 rfl rfl ?_
  refine gf_Entries_14 C (zent_in hv ho 0 rfl) (zent_shp ho _ _ _ _ _) rfl d_Entries_clear_1 ?_
  refine z_iconst C d_Entries_clear_4 zki_0 ?_
  obtain ⟨σ2, h1, hf⟩ := bd_s hf
  refine z_cVv C kl_Entries_23 rfl (c_Row_fill (zent_row hv ho 1 rfl) h1) (zent_in hv ho 1 rfl) ((zent_row hv ho 1 rfl).2.2.1 _ _ _ _) rfl rfl (Nat.le_of_ble_eq_true rfl) ⟨(Nat.le_of_ble_eq_true rfl), (Nat.le_of_ble_eq_true rfl)⟩ ⟨(Nat.le_of_ble_eq_true rfl), (Nat.le_of_ble_eq_true rfl)⟩ d_Entries_clear_5 ?_
  cases hf
  exact z_vret C rfl (Nat.le_of_ble_eq_true rfl) (Nat.le_of_ble_eq_true rfl) d_Entries_clear_8
abbrev rm_Entries_copyFrom : Room := { frames := 2, cells := 0, slots := 0, locals := 111 }
theorem d_Entries_copyFrom_0 : decode b_Entries_copyFrom 0 = .ok (.aload_n 0, 1) := by decide +kernel
theorem d_Entries_copyFrom_1 : decode b_Entries_copyFrom 1 = .ok (.getfield 14, 3) := by decide +kernel
theorem d_Entries_copyFrom_4 : decode b_Entries_copyFrom 4 = .ok (.aload_n 1, 1) := by decide +kernel
theorem d_Entries_copyFrom_5 : decode b_Entries_copyFrom 5 = .ok (.getfield 14, 3) := by decide +kernel
theorem d_Entries_copyFrom_8 : decode b_Entries_copyFrom 8 = .ok (.invokevirtual 26, 3) := by decide +kernel
theorem d_Entries_copyFrom_11 : decode b_Entries_copyFrom 11 = .ok (.aload_n 0, 1) := by decide +kernel
theorem d_Entries_copyFrom_12 : decode b_Entries_copyFrom 12 = .ok (.getfield 20, 3) := by decide +kernel
theorem d_Entries_copyFrom_15 : decode b_Entries_copyFrom 15 = .ok (.aload_n 1, 1) := by decide +kernel
theorem d_Entries_copyFrom_16 : decode b_Entries_copyFrom 16 = .ok (.getfield 20, 3) := by decide +kernel
theorem d_Entries_copyFrom_19 : decode b_Entries_copyFrom 19 = .ok (.invokevirtual 26, 3) := by decide +kernel
theorem d_Entries_copyFrom_22 : decode b_Entries_copyFrom 22 = .ok (.return_, 1) := by decide +kernel
def F_Entries_copyFrom (v : Nat) (o : Nat) (v2 : Nat) (o2 : Nat) (σ : zSt) : Option (zSt) :=
  (F_Row_copyFrom v (o + 1) v2 (o2 + 1) σ).bind fun σ2 => (F_Row_copyFrom v (o + 3) v2 (o2 + 3) σ2).bind fun σ4 => some σ4
set_option maxHeartbeats 4000000 in
set_option maxRecDepth 100000 in
theorem c_Entries_copyFrom {l : Launch} {G : zLA} {v : Nat} (hv : zvl G v) {o : Nat} (ho : zent o) {v2 : Nat} (hv2 : zvl G v2) {o2 : Nat} (ho2 : zent o2) {σ : zSt} {σ' : zSt} (hf : F_Entries_copyFrom v o v2 o2 σ = some σ') : zM l G y_Entries_copyFrom (zws y_Entries_copyFrom b_Entries_copyFrom 2 none) rm_Entries_copyFrom [.ref (zad G v o), .ref (zad G v2 o2)] σ none σ' := by
  refine z_ofM (own := "VillageWaves$Entries") (lv := [(0, .ref (zad G v o)), (1, .ref (zad G v2 o2))]) (by decide +kernel) rfl rfl (Nat.le_of_ble_eq_true rfl) (fun p e s m args below meth c C => ?_)
  rw [F_Entries_copyFrom] at hf
  refine z_aload_n C d_Entries_copyFrom_0 0 rfl rfl ?_
  refine gf_Entries_14 C (zent_in hv ho 0 rfl) (zent_shp ho _ _ _ _ _) rfl d_Entries_copyFrom_1 ?_
  refine z_aload_n C d_Entries_copyFrom_4 1 rfl rfl ?_
  refine gf_Entries_14 C (zent_in hv2 ho2 0 rfl) (zent_shp ho2 _ _ _ _ _) rfl d_Entries_copyFrom_5 ?_
  obtain ⟨σ2, h1, hf⟩ := bd_s hf
  refine z_cVv C kl_Entries_26 rfl (c_Row_copyFrom (zent_row hv ho 1 rfl) (zent_row hv2 ho2 1 rfl) h1) (zent_in hv ho 1 rfl) ((zent_row hv ho 1 rfl).2.2.1 _ _ _ _) rfl rfl (Nat.le_of_ble_eq_true rfl) ⟨(Nat.le_of_ble_eq_true rfl), (Nat.le_of_ble_eq_true rfl)⟩ ⟨(Nat.le_of_ble_eq_true rfl), (Nat.le_of_ble_eq_true rfl)⟩ d_Entries_copyFrom_8 ?_
  refine z_aload_n C d_Entries_copyFrom_11 0 rfl rfl ?_
  refine gf_Entries_20 C (zent_in hv ho 0 rfl) (zent_shp ho _ _ _ _ _) rfl d_Entries_copyFrom_12 ?_
  refine z_aload_n C d_Entries_copyFrom_15 1 rfl rfl ?_
  refine gf_Entries_20 C (zent_in hv2 ho2 0 rfl) (zent_shp ho2 _ _ _ _ _) rfl d_Entries_copyFrom_16 ?_
  obtain ⟨σ4, h3, hf⟩ := bd_s hf
  refine z_cVv C kl_Entries_26 rfl (c_Row_copyFrom (zent_row hv ho 3 rfl) (zent_row hv2 ho2 3 rfl) h3) (zent_in hv ho 3 rfl) ((zent_row hv ho 3 rfl).2.2.1 _ _ _ _) rfl rfl (Nat.le_of_ble_eq_true rfl) ⟨(Nat.le_of_ble_eq_true rfl), (Nat.le_of_ble_eq_true rfl)⟩ ⟨(Nat.le_of_ble_eq_true rfl), (Nat.le_of_ble_eq_true rfl)⟩ d_Entries_copyFrom_19 ?_
  cases hf
  exact z_vret C rfl (Nat.le_of_ble_eq_true rfl) (Nat.le_of_ble_eq_true rfl) d_Entries_copyFrom_22
abbrev rm_Entries_put : Room := { frames := 1, cells := 0, slots := 0, locals := 22 }
theorem d_Entries_put_0 : decode b_Entries_put 0 = .ok (.aload_n 0, 1) := by decide +kernel
theorem d_Entries_put_1 : decode b_Entries_put 1 = .ok (.getfield 14, 3) := by decide +kernel
theorem d_Entries_put_4 : decode b_Entries_put 4 = .ok (.iload_n 1, 1) := by decide +kernel
theorem d_Entries_put_5 : decode b_Entries_put 5 = .ok (.iload_n 2, 1) := by decide +kernel
theorem d_Entries_put_6 : decode b_Entries_put 6 = .ok (.invokevirtual 30, 3) := by decide +kernel
theorem d_Entries_put_9 : decode b_Entries_put 9 = .ok (.aload_n 0, 1) := by decide +kernel
theorem d_Entries_put_10 : decode b_Entries_put 10 = .ok (.getfield 20, 3) := by decide +kernel
theorem d_Entries_put_13 : decode b_Entries_put 13 = .ok (.iload_n 1, 1) := by decide +kernel
theorem d_Entries_put_14 : decode b_Entries_put 14 = .ok (.iload_n 2, 1) := by decide +kernel
theorem d_Entries_put_15 : decode b_Entries_put 15 = .ok (.invokestatic 34, 3) := by decide +kernel
theorem d_Entries_put_18 : decode b_Entries_put 18 = .ok (.iload_n 3, 1) := by decide +kernel
theorem d_Entries_put_19 : decode b_Entries_put 19 = .ok (.invokevirtual 38, 3) := by decide +kernel
theorem d_Entries_put_22 : decode b_Entries_put 22 = .ok (.return_, 1) := by decide +kernel
def F_Entries_put (v : Nat) (o : Nat) (a0 : Int32) (a1 : Int32) (a2 : Int32) (σ : zSt) : Option (zSt) :=
  (F_Row_join v (o + 1) a0 a1 σ).bind fun σ2 => (F_Waves_cell a0 a1 σ2).bind fun r4 => (F_Row_put v (o + 3) r4 a2 σ2).bind fun σ6 => some σ6
set_option maxHeartbeats 4000000 in
set_option maxRecDepth 100000 in
theorem c_Entries_put {l : Launch} {G : zLA} {v : Nat} (hv : zvl G v) {o : Nat} (ho : zent o) {a0 : Int32} {a1 : Int32} {a2 : Int32} {σ : zSt} {σ' : zSt} (hf : F_Entries_put v o a0 a1 a2 σ = some σ') : zM l G y_Entries_put (zws y_Entries_put b_Entries_put 4 none) rm_Entries_put [.ref (zad G v o), .int a0, .int a1, .int a2] σ none σ' := by
  refine z_ofM (own := "VillageWaves$Entries") (lv := [(0, .ref (zad G v o)), (1, .int a0), (2, .int a1), (3, .int a2)]) (by decide +kernel) rfl rfl (Nat.le_of_ble_eq_true rfl) (fun p e s m args below meth c C => ?_)
  rw [F_Entries_put] at hf
  refine z_aload_n C d_Entries_put_0 0 rfl rfl ?_
  refine gf_Entries_14 C (zent_in hv ho 0 rfl) (zent_shp ho _ _ _ _ _) rfl d_Entries_put_1 ?_
  refine z_iload_n C d_Entries_put_4 1 rfl rfl ?_
  refine z_iload_n C d_Entries_put_5 2 rfl rfl ?_
  obtain ⟨σ2, h1, hf⟩ := bd_s hf
  refine z_cVv C kl_Entries_30 rfl (c_Row_join (zent_row hv ho 1 rfl) h1) (zent_in hv ho 1 rfl) ((zent_row hv ho 1 rfl).2.2.1 _ _ _ _) rfl rfl (Nat.le_of_ble_eq_true rfl) ⟨(Nat.le_of_ble_eq_true rfl), (Nat.le_of_ble_eq_true rfl)⟩ ⟨(Nat.le_of_ble_eq_true rfl), (Nat.le_of_ble_eq_true rfl)⟩ d_Entries_put_6 ?_
  refine z_aload_n C d_Entries_put_9 0 rfl rfl ?_
  refine gf_Entries_20 C (zent_in hv ho 0 rfl) (zent_shp ho _ _ _ _ _) rfl d_Entries_put_10 ?_
  refine z_iload_n C d_Entries_put_13 1 rfl rfl ?_
  refine z_iload_n C d_Entries_put_14 2 rfl rfl ?_
  obtain ⟨r4, h3, hf⟩ := bd_s hf
  refine z_cSNi C kl_Entries_34 (c_Waves_cell h3) rfl rfl (Nat.le_of_ble_eq_true rfl) ⟨(Nat.le_of_ble_eq_true rfl), (Nat.le_of_ble_eq_true rfl)⟩ ⟨(Nat.le_of_ble_eq_true rfl), (Nat.le_of_ble_eq_true rfl)⟩ d_Entries_put_15 ?_
  refine z_iload_n C d_Entries_put_18 3 rfl rfl ?_
  obtain ⟨σ6, h5, hf⟩ := bd_s hf
  refine z_cVv C kl_Entries_38 rfl (c_Row_put (zent_row hv ho 3 rfl) h5) (zent_in hv ho 3 rfl) ((zent_row hv ho 3 rfl).2.2.1 _ _ _ _) rfl rfl (Nat.le_of_ble_eq_true rfl) ⟨(Nat.le_of_ble_eq_true rfl), (Nat.le_of_ble_eq_true rfl)⟩ ⟨(Nat.le_of_ble_eq_true rfl), (Nat.le_of_ble_eq_true rfl)⟩ d_Entries_put_19 ?_
  cases hf
  exact z_vret C rfl (Nat.le_of_ble_eq_true rfl) (Nat.le_of_ble_eq_true rfl) d_Entries_put_22
abbrev rm_Entries_remove : Room := { frames := 1, cells := 0, slots := 0, locals := 22 }
theorem d_Entries_remove_0 : decode b_Entries_remove 0 = .ok (.aload_n 0, 1) := by decide +kernel
theorem d_Entries_remove_1 : decode b_Entries_remove 1 = .ok (.getfield 14, 3) := by decide +kernel
theorem d_Entries_remove_4 : decode b_Entries_remove 4 = .ok (.iload_n 1, 1) := by decide +kernel
theorem d_Entries_remove_5 : decode b_Entries_remove 5 = .ok (.iload_n 2, 1) := by decide +kernel
theorem d_Entries_remove_6 : decode b_Entries_remove 6 = .ok (.invokevirtual 41, 3) := by decide +kernel
theorem d_Entries_remove_9 : decode b_Entries_remove 9 = .ok (.return_, 1) := by decide +kernel
def F_Entries_remove (v : Nat) (o : Nat) (a0 : Int32) (a1 : Int32) (σ : zSt) : Option (zSt) :=
  (F_Row_leave v (o + 1) a0 a1 σ).bind fun σ2 => some σ2
set_option maxHeartbeats 4000000 in
set_option maxRecDepth 100000 in
theorem c_Entries_remove {l : Launch} {G : zLA} {v : Nat} (hv : zvl G v) {o : Nat} (ho : zent o) {a0 : Int32} {a1 : Int32} {σ : zSt} {σ' : zSt} (hf : F_Entries_remove v o a0 a1 σ = some σ') : zM l G y_Entries_remove (zws y_Entries_remove b_Entries_remove 3 none) rm_Entries_remove [.ref (zad G v o), .int a0, .int a1] σ none σ' := by
  refine z_ofM (own := "VillageWaves$Entries") (lv := [(0, .ref (zad G v o)), (1, .int a0), (2, .int a1)]) (by decide +kernel) rfl rfl (Nat.le_of_ble_eq_true rfl) (fun p e s m args below meth c C => ?_)
  rw [F_Entries_remove] at hf
  refine z_aload_n C d_Entries_remove_0 0 rfl rfl ?_
  refine gf_Entries_14 C (zent_in hv ho 0 rfl) (zent_shp ho _ _ _ _ _) rfl d_Entries_remove_1 ?_
  refine z_iload_n C d_Entries_remove_4 1 rfl rfl ?_
  refine z_iload_n C d_Entries_remove_5 2 rfl rfl ?_
  obtain ⟨σ2, h1, hf⟩ := bd_s hf
  refine z_cVv C kl_Entries_41 rfl (c_Row_leave (zent_row hv ho 1 rfl) h1) (zent_in hv ho 1 rfl) ((zent_row hv ho 1 rfl).2.2.1 _ _ _ _) rfl rfl (Nat.le_of_ble_eq_true rfl) ⟨(Nat.le_of_ble_eq_true rfl), (Nat.le_of_ble_eq_true rfl)⟩ ⟨(Nat.le_of_ble_eq_true rfl), (Nat.le_of_ble_eq_true rfl)⟩ d_Entries_remove_6 ?_
  cases hf
  exact z_vret C rfl (Nat.le_of_ble_eq_true rfl) (Nat.le_of_ble_eq_true rfl) d_Entries_remove_9
abbrev rm_Entries_time : Room := { frames := 1, cells := 0, slots := 0, locals := 21 }
theorem d_Entries_time_0 : decode b_Entries_time 0 = .ok (.aload_n 0, 1) := by decide +kernel
theorem d_Entries_time_1 : decode b_Entries_time 1 = .ok (.getfield 20, 3) := by decide +kernel
theorem d_Entries_time_4 : decode b_Entries_time 4 = .ok (.iload_n 1, 1) := by decide +kernel
theorem d_Entries_time_5 : decode b_Entries_time 5 = .ok (.iload_n 2, 1) := by decide +kernel
theorem d_Entries_time_6 : decode b_Entries_time 6 = .ok (.invokestatic 34, 3) := by decide +kernel
theorem d_Entries_time_9 : decode b_Entries_time 9 = .ok (.invokevirtual 44, 3) := by decide +kernel
theorem d_Entries_time_12 : decode b_Entries_time 12 = .ok (.ireturn, 1) := by decide +kernel
def F_Entries_time (v : Nat) (o : Nat) (a0 : Int32) (a1 : Int32) (σ : zSt) : Option (Int32) :=
  (F_Waves_cell a0 a1 σ).bind fun r2 => (F_Row_get v (o + 3) r2 σ).bind fun r4 => some r4
set_option maxHeartbeats 4000000 in
set_option maxRecDepth 100000 in
theorem c_Entries_time {l : Launch} {G : zLA} {v : Nat} (hv : zvl G v) {o : Nat} (ho : zent o) {a0 : Int32} {a1 : Int32} {σ : zSt} {r : Int32} (hf : F_Entries_time v o a0 a1 σ = some r) : zM l G y_Entries_time (zws y_Entries_time b_Entries_time 3 (some .int)) rm_Entries_time [.ref (zad G v o), .int a0, .int a1] σ (some (.int r)) σ := by
  refine z_ofM (own := "VillageWaves$Entries") (lv := [(0, .ref (zad G v o)), (1, .int a0), (2, .int a1)]) (by decide +kernel) rfl rfl (Nat.le_of_ble_eq_true rfl) (fun p e s m args below meth c C => ?_)
  rw [F_Entries_time] at hf
  refine z_aload_n C d_Entries_time_0 0 rfl rfl ?_
  refine gf_Entries_20 C (zent_in hv ho 0 rfl) (zent_shp ho _ _ _ _ _) rfl d_Entries_time_1 ?_
  refine z_iload_n C d_Entries_time_4 1 rfl rfl ?_
  refine z_iload_n C d_Entries_time_5 2 rfl rfl ?_
  obtain ⟨r2, h1, hf⟩ := bd_s hf
  refine z_cSNi C kl_Entries_34 (c_Waves_cell h1) rfl rfl (Nat.le_of_ble_eq_true rfl) ⟨(Nat.le_of_ble_eq_true rfl), (Nat.le_of_ble_eq_true rfl)⟩ ⟨(Nat.le_of_ble_eq_true rfl), (Nat.le_of_ble_eq_true rfl)⟩ d_Entries_time_6 ?_
  obtain ⟨r4, h3, hf⟩ := bd_s hf
  refine z_cVi C kl_Entries_44 rfl (c_Row_get (zent_row hv ho 3 rfl) h3) (zent_in hv ho 3 rfl) ((zent_row hv ho 3 rfl).2.2.1 _ _ _ _) rfl rfl (Nat.le_of_ble_eq_true rfl) ⟨(Nat.le_of_ble_eq_true rfl), (Nat.le_of_ble_eq_true rfl)⟩ ⟨(Nat.le_of_ble_eq_true rfl), (Nat.le_of_ble_eq_true rfl)⟩ d_Entries_time_9 ?_
  cases hf
  exact z_iret C rfl (Nat.le_of_ble_eq_true rfl) (Nat.le_of_ble_eq_true rfl) d_Entries_time_12
abbrev rm_Entries_size : Room := { frames := 1, cells := 0, slots := 0, locals := 21 }
theorem d_Entries_size_0 : decode b_Entries_size 0 = .ok (.aload_n 0, 1) := by decide +kernel
theorem d_Entries_size_1 : decode b_Entries_size 1 = .ok (.getfield 14, 3) := by decide +kernel
theorem d_Entries_size_4 : decode b_Entries_size 4 = .ok (.iload_n 1, 1) := by decide +kernel
theorem d_Entries_size_5 : decode b_Entries_size 5 = .ok (.invokevirtual 44, 3) := by decide +kernel
theorem d_Entries_size_8 : decode b_Entries_size 8 = .ok (.invokestatic 48, 3) := by decide +kernel
theorem d_Entries_size_11 : decode b_Entries_size 11 = .ok (.ireturn, 1) := by decide +kernel
def F_Entries_size (v : Nat) (o : Nat) (a0 : Int32) (σ : zSt) : Option (Int32) :=
  (F_Row_get v (o + 1) a0 σ).bind fun r2 => (F_Integer_bitCount r2).bind fun r4 => some r4
set_option maxHeartbeats 4000000 in
set_option maxRecDepth 100000 in
theorem c_Entries_size {l : Launch} {G : zLA} {v : Nat} (hv : zvl G v) {o : Nat} (ho : zent o) {a0 : Int32} {σ : zSt} {r : Int32} (hf : F_Entries_size v o a0 σ = some r) : zM l G y_Entries_size (zws y_Entries_size b_Entries_size 2 (some .int)) rm_Entries_size [.ref (zad G v o), .int a0] σ (some (.int r)) σ := by
  refine z_ofM (own := "VillageWaves$Entries") (lv := [(0, .ref (zad G v o)), (1, .int a0)]) (by decide +kernel) rfl rfl (Nat.le_of_ble_eq_true rfl) (fun p e s m args below meth c C => ?_)
  rw [F_Entries_size] at hf
  refine z_aload_n C d_Entries_size_0 0 rfl rfl ?_
  refine gf_Entries_14 C (zent_in hv ho 0 rfl) (zent_shp ho _ _ _ _ _) rfl d_Entries_size_1 ?_
  refine z_iload_n C d_Entries_size_4 1 rfl rfl ?_
  obtain ⟨r2, h1, hf⟩ := bd_s hf
  refine z_cVi C kl_Entries_44 rfl (c_Row_get (zent_row hv ho 1 rfl) h1) (zent_in hv ho 1 rfl) ((zent_row hv ho 1 rfl).2.2.1 _ _ _ _) rfl rfl (Nat.le_of_ble_eq_true rfl) ⟨(Nat.le_of_ble_eq_true rfl), (Nat.le_of_ble_eq_true rfl)⟩ ⟨(Nat.le_of_ble_eq_true rfl), (Nat.le_of_ble_eq_true rfl)⟩ d_Entries_size_5 ?_
  obtain ⟨r4, h3, hf⟩ := bd_s hf
  refine z_cSi C kl_Entries_48 (c_Integer_bitCount h3) rfl rfl (Nat.le_of_ble_eq_true rfl) ⟨(Nat.le_of_ble_eq_true rfl), (Nat.le_of_ble_eq_true rfl)⟩ ⟨(Nat.le_of_ble_eq_true rfl), (Nat.le_of_ble_eq_true rfl)⟩ d_Entries_size_8 ?_
  cases hf
  exact z_iret C rfl (Nat.le_of_ble_eq_true rfl) (Nat.le_of_ble_eq_true rfl) d_Entries_size_11
abbrev rm_Entries_total : Room := { frames := 2, cells := 0, slots := 0, locals := 42 }
theorem d_Entries_total_0 : decode b_Entries_total 0 = .ok (.iconst 0, 1) := by decide +kernel
theorem d_Entries_total_1 : decode b_Entries_total 1 = .ok (.istore_n 1, 1) := by decide +kernel
theorem d_Entries_total_2 : decode b_Entries_total 2 = .ok (.iconst 0, 1) := by decide +kernel
theorem d_Entries_total_3 : decode b_Entries_total 3 = .ok (.istore_n 2, 1) := by decide +kernel
theorem d_Entries_total_4 : decode b_Entries_total 4 = .ok (.iload_n 2, 1) := by decide +kernel
theorem d_Entries_total_5 : decode b_Entries_total 5 = .ok (.bipush 12, 2) := by decide +kernel
theorem d_Entries_total_7 : decode b_Entries_total 7 = .ok (.if_icmp .ge 17, 3) := by decide +kernel
theorem d_Entries_total_10 : decode b_Entries_total 10 = .ok (.iload_n 1, 1) := by decide +kernel
theorem d_Entries_total_11 : decode b_Entries_total 11 = .ok (.aload_n 0, 1) := by decide +kernel
theorem d_Entries_total_12 : decode b_Entries_total 12 = .ok (.iload_n 2, 1) := by decide +kernel
theorem d_Entries_total_13 : decode b_Entries_total 13 = .ok (.invokevirtual 53, 3) := by decide +kernel
theorem d_Entries_total_16 : decode b_Entries_total 16 = .ok (.iadd, 1) := by decide +kernel
theorem d_Entries_total_17 : decode b_Entries_total 17 = .ok (.istore_n 1, 1) := by decide +kernel
theorem d_Entries_total_18 : decode b_Entries_total 18 = .ok (.iinc 2 1, 3) := by decide +kernel
theorem d_Entries_total_21 : decode b_Entries_total 21 = .ok (.goto (-17), 3) := by decide +kernel
theorem d_Entries_total_24 : decode b_Entries_total 24 = .ok (.iload_n 1, 1) := by decide +kernel
theorem d_Entries_total_25 : decode b_Entries_total 25 = .ok (.ireturn, 1) := by decide +kernel
def L_Entries_total (v : Nat) (o : Nat) (σ : zSt) : Nat → Nat → Int32 → Int32 → Option (Int32)
  | 0, _, _, _ => none
  | n + 1, 0, x1, x2 => if (12 : Int32) ≤ x2 then some x1 else ((F_Entries_size v o x2 σ).bind fun r2 => L_Entries_total v o σ n 0 (x1 + r2) (x2 + (1 : Int32)))
  | _ + 1, _, _, _ => none
theorem e_Entries_total_0 (v : Nat) (o : Nat) (σ : zSt) (n : Nat) (x1 : Int32) (x2 : Int32) : L_Entries_total v o σ (n + 1) 0 x1 x2 = (if (12 : Int32) ≤ x2 then some x1 else ((F_Entries_size v o x2 σ).bind fun r2 => L_Entries_total v o σ n 0 (x1 + r2) (x2 + (1 : Int32)))) := rfl
set_option maxHeartbeats 4000000 in
set_option maxRecDepth 100000 in
theorem w_Entries_total {l : Launch} {G : zLA} {p : Program} {e : Env} {s : State} {m : MethodId} {args : Array Value} {below : List Frame} {meth : Method} {c : Code} (C : zCx G p s m args meth c "VillageWaves$Entries" b_Entries_total 3 (some .int)) {v : Nat} (hv : zvl G v) {o : Nat} (ho : zent o) {σ : zSt} {r : Int32} : ∀ n : Nat, (∀ (x1 : Int32) (x2 : Int32), L_Entries_total v o σ n 0 x1 x2 = some r → zWV G p l e rm_Entries_total s m args below meth c 3 0 0 (zQ G below args s rm_Entries_total (some (.int r)) σ) 4 [(0, .ref (zad G v o)), (1, .int x1), (2, .int x2)] [] σ) := by
  intro n
  induction n with
  | zero => exact fun _ _ hf => (by cases hf)
  | succ n ih =>
    refine ?_
    · intro x1 x2 hf
      rw [e_Entries_total_0] at hf
      refine z_iload_n C d_Entries_total_4 2 rfl rfl ?_
      refine z_bipush C d_Entries_total_5 zkb_12 ?_
      refine z_icmp_ge (tgt := 24) C d_Entries_total_7 rfl (fun h3 => ?_) (fun h3 => ?_)
      · have hf := iff_t hf h3
        refine z_iload_n C d_Entries_total_24 1 rfl rfl ?_
        cases hf
        exact z_iret C rfl (Nat.le_of_ble_eq_true rfl) (Nat.le_of_ble_eq_true rfl) d_Entries_total_25
      · have hf := iff_f hf h3
        refine z_iload_n C d_Entries_total_10 1 rfl rfl ?_
        refine z_aload_n C d_Entries_total_11 0 rfl rfl ?_
        refine z_iload_n C d_Entries_total_12 2 rfl rfl ?_
        obtain ⟨r2, h1, hf⟩ := bd_s hf
        refine z_cVi C kl_Entries_53 rfl (c_Entries_size hv ho h1) (zent_in hv ho 0 rfl) (zent_shp ho _ _ _ _ _) rfl rfl (Nat.le_of_ble_eq_true rfl) ⟨(Nat.le_of_ble_eq_true rfl), (Nat.le_of_ble_eq_true rfl)⟩ ⟨(Nat.le_of_ble_eq_true rfl), (Nat.le_of_ble_eq_true rfl)⟩ d_Entries_total_13 ?_
        refine z_iadd C d_Entries_total_16 ?_
        refine z_istore_n C d_Entries_total_17 rfl (by decide) ?_
        refine z_iinc C d_Entries_total_18 2 rfl zki_1 (by decide) ?_
        refine z_goto (tgt := 4) C d_Entries_total_21 rfl ?_
        exact z_sub [2, 1, 0] rfl (ih _ _ hf)
def F_Entries_total (v : Nat) (o : Nat) (σ : zSt) : Option (Int32) :=
  L_Entries_total v o σ zK 0 (0 : Int32) (0 : Int32)
set_option maxHeartbeats 4000000 in
set_option maxRecDepth 100000 in
theorem c_Entries_total {l : Launch} {G : zLA} {v : Nat} (hv : zvl G v) {o : Nat} (ho : zent o) {σ : zSt} {r : Int32} (hf : F_Entries_total v o σ = some r) : zM l G y_Entries_total (zws y_Entries_total b_Entries_total 3 (some .int)) rm_Entries_total [.ref (zad G v o)] σ (some (.int r)) σ := by
  refine z_ofM (own := "VillageWaves$Entries") (lv := [(0, .ref (zad G v o))]) (by decide +kernel) rfl rfl (Nat.le_of_ble_eq_true rfl) (fun p e s m args below meth c C => ?_)
  rw [F_Entries_total] at hf
  refine z_iconst C d_Entries_total_0 zki_0 ?_
  refine z_istore_n C d_Entries_total_1 rfl (by decide) ?_
  refine z_iconst C d_Entries_total_2 zki_0 ?_
  refine z_istore_n C d_Entries_total_3 rfl (by decide) ?_
  exact z_sub [2, 1, 0] rfl ((w_Entries_total C hv ho zK) _ _ hf)
abbrev rm_Entries_first : Room := { frames := 2, cells := 0, slots := 0, locals := 43 }
theorem d_Entries_first_0 : decode b_Entries_first 0 = .ok (.iconst (-1), 1) := by decide +kernel
theorem d_Entries_first_1 : decode b_Entries_first 1 = .ok (.istore_n 3, 1) := by decide +kernel
theorem d_Entries_first_2 : decode b_Entries_first 2 = .ok (.iconst 0, 1) := by decide +kernel
theorem d_Entries_first_3 : decode b_Entries_first 3 = .ok (.istore 4, 2) := by decide +kernel
theorem d_Entries_first_5 : decode b_Entries_first 5 = .ok (.iload 4, 2) := by decide +kernel
theorem d_Entries_first_7 : decode b_Entries_first 7 = .ok (.bipush 20, 2) := by decide +kernel
theorem d_Entries_first_9 : decode b_Entries_first 9 = .ok (.if_icmp .ge 54, 3) := by decide +kernel
theorem d_Entries_first_12 : decode b_Entries_first 12 = .ok (.iload_n 3, 1) := by decide +kernel
theorem d_Entries_first_13 : decode b_Entries_first 13 = .ok (.iconst (-1), 1) := by decide +kernel
theorem d_Entries_first_14 : decode b_Entries_first 14 = .ok (.if_icmp .eq 19, 3) := by decide +kernel
theorem d_Entries_first_17 : decode b_Entries_first 17 = .ok (.aload_n 0, 1) := by decide +kernel
theorem d_Entries_first_18 : decode b_Entries_first 18 = .ok (.iload_n 1, 1) := by decide +kernel
theorem d_Entries_first_19 : decode b_Entries_first 19 = .ok (.iload 4, 2) := by decide +kernel
theorem d_Entries_first_21 : decode b_Entries_first 21 = .ok (.invokevirtual 56, 3) := by decide +kernel
theorem d_Entries_first_24 : decode b_Entries_first 24 = .ok (.aload_n 0, 1) := by decide +kernel
theorem d_Entries_first_25 : decode b_Entries_first 25 = .ok (.iload_n 1, 1) := by decide +kernel
theorem d_Entries_first_26 : decode b_Entries_first 26 = .ok (.iload_n 3, 1) := by decide +kernel
theorem d_Entries_first_27 : decode b_Entries_first 27 = .ok (.invokevirtual 56, 3) := by decide +kernel
theorem d_Entries_first_30 : decode b_Entries_first 30 = .ok (.if_icmp .ge 7, 3) := by decide +kernel
theorem d_Entries_first_33 : decode b_Entries_first 33 = .ok (.iconst 1, 1) := by decide +kernel
theorem d_Entries_first_34 : decode b_Entries_first 34 = .ok (.goto 4, 3) := by decide +kernel
theorem d_Entries_first_37 : decode b_Entries_first 37 = .ok (.iconst 0, 1) := by decide +kernel
theorem d_Entries_first_38 : decode b_Entries_first 38 = .ok (.istore 5, 2) := by decide +kernel
theorem d_Entries_first_40 : decode b_Entries_first 40 = .ok (.iload_n 2, 1) := by decide +kernel
theorem d_Entries_first_41 : decode b_Entries_first 41 = .ok (.iload 4, 2) := by decide +kernel
theorem d_Entries_first_43 : decode b_Entries_first 43 = .ok (.invokestatic 59, 3) := by decide +kernel
theorem d_Entries_first_46 : decode b_Entries_first 46 = .ok (.ifCond .eq 11, 3) := by decide +kernel
theorem d_Entries_first_49 : decode b_Entries_first 49 = .ok (.iload 5, 2) := by decide +kernel
theorem d_Entries_first_51 : decode b_Entries_first 51 = .ok (.ifCond .eq 6, 3) := by decide +kernel
theorem d_Entries_first_54 : decode b_Entries_first 54 = .ok (.iload 4, 2) := by decide +kernel
theorem d_Entries_first_56 : decode b_Entries_first 56 = .ok (.istore_n 3, 1) := by decide +kernel
theorem d_Entries_first_57 : decode b_Entries_first 57 = .ok (.iinc 4 1, 3) := by decide +kernel
theorem d_Entries_first_60 : decode b_Entries_first 60 = .ok (.goto (-55), 3) := by decide +kernel
theorem d_Entries_first_63 : decode b_Entries_first 63 = .ok (.iload_n 3, 1) := by decide +kernel
theorem d_Entries_first_64 : decode b_Entries_first 64 = .ok (.ireturn, 1) := by decide +kernel
def L_Entries_first (v : Nat) (o : Nat) (σ : zSt) : Nat → Nat → Int32 → Int32 → Int32 → Int32 → Int32 → Option (Int32)
  | 0, _, _, _, _, _, _ => none
  | n + 1, 0, x1, x2, x3, x4, y0 => if (20 : Int32) ≤ x4 then some x3 else (if x3 = (-1 : Int32) then L_Entries_first v o σ n 1 x1 x2 x3 x4 (1 : Int32) else ((F_Entries_time v o x1 x4 σ).bind fun r2 => (F_Entries_time v o x1 x3 σ).bind fun r4 => if r4 ≤ r2 then L_Entries_first v o σ n 1 x1 x2 x3 x4 (0 : Int32) else L_Entries_first v o σ n 1 x1 x2 x3 x4 (1 : Int32)))
  | n + 1, 1, x1, x2, x3, x4, y0 => (F_Waves_contains x2 x4 σ).bind fun r9 => if r9 = 0 then L_Entries_first v o σ n 0 x1 x2 x3 (x4 + (1 : Int32)) 0 else (if y0 = 0 then L_Entries_first v o σ n 0 x1 x2 x3 (x4 + (1 : Int32)) 0 else L_Entries_first v o σ n 0 x1 x2 x4 (x4 + (1 : Int32)) 0)
  | _ + 1, _, _, _, _, _, _ => none
theorem e_Entries_first_0 (v : Nat) (o : Nat) (σ : zSt) (n : Nat) (x1 : Int32) (x2 : Int32) (x3 : Int32) (x4 : Int32) (y0 : Int32) : L_Entries_first v o σ (n + 1) 0 x1 x2 x3 x4 y0 = (if (20 : Int32) ≤ x4 then some x3 else (if x3 = (-1 : Int32) then L_Entries_first v o σ n 1 x1 x2 x3 x4 (1 : Int32) else ((F_Entries_time v o x1 x4 σ).bind fun r2 => (F_Entries_time v o x1 x3 σ).bind fun r4 => if r4 ≤ r2 then L_Entries_first v o σ n 1 x1 x2 x3 x4 (0 : Int32) else L_Entries_first v o σ n 1 x1 x2 x3 x4 (1 : Int32)))) := rfl
theorem e_Entries_first_1 (v : Nat) (o : Nat) (σ : zSt) (n : Nat) (x1 : Int32) (x2 : Int32) (x3 : Int32) (x4 : Int32) (y0 : Int32) : L_Entries_first v o σ (n + 1) 1 x1 x2 x3 x4 y0 = ((F_Waves_contains x2 x4 σ).bind fun r9 => if r9 = 0 then L_Entries_first v o σ n 0 x1 x2 x3 (x4 + (1 : Int32)) 0 else (if y0 = 0 then L_Entries_first v o σ n 0 x1 x2 x3 (x4 + (1 : Int32)) 0 else L_Entries_first v o σ n 0 x1 x2 x4 (x4 + (1 : Int32)) 0)) := rfl
set_option maxHeartbeats 4000000 in
set_option maxRecDepth 100000 in
theorem w_Entries_first {l : Launch} {G : zLA} {p : Program} {e : Env} {s : State} {m : MethodId} {args : Array Value} {below : List Frame} {meth : Method} {c : Code} (C : zCx G p s m args meth c "VillageWaves$Entries" b_Entries_first 6 (some .int)) {v : Nat} (hv : zvl G v) {o : Nat} (ho : zent o) {σ : zSt} {r : Int32} : ∀ n : Nat, (∀ (x1 : Int32) (x2 : Int32) (x3 : Int32) (x4 : Int32) (y0 : Int32), L_Entries_first v o σ n 0 x1 x2 x3 x4 y0 = some r → zWV G p l e rm_Entries_first s m args below meth c 6 0 0 (zQ G below args s rm_Entries_first (some (.int r)) σ) 5 [(0, .ref (zad G v o)), (1, .int x1), (2, .int x2), (3, .int x3), (4, .int x4)] [] σ) ∧ (∀ (x1 : Int32) (x2 : Int32) (x3 : Int32) (x4 : Int32) (y0 : Int32), L_Entries_first v o σ n 1 x1 x2 x3 x4 y0 = some r → zWV G p l e rm_Entries_first s m args below meth c 6 0 0 (zQ G below args s rm_Entries_first (some (.int r)) σ) 38 [(0, .ref (zad G v o)), (1, .int x1), (2, .int x2), (3, .int x3), (4, .int x4)] [.int y0] σ) := by
  intro n
  induction n with
  | zero => exact ⟨fun _ _ _ _ _ hf => (by cases hf), fun _ _ _ _ _ hf => (by cases hf)⟩
  | succ n ih =>
    refine ⟨?_, ?_⟩
    · intro x1 x2 x3 x4 y0 hf
      rw [e_Entries_first_0] at hf
      refine z_iload C d_Entries_first_5 4 rfl ?_
      refine z_bipush C d_Entries_first_7 zkb_20 ?_
      refine z_icmp_ge (tgt := 63) C d_Entries_first_9 rfl (fun h7 => ?_) (fun h7 => ?_)
      · have hf := iff_t hf h7
        refine z_iload_n C d_Entries_first_63 3 rfl rfl ?_
        cases hf
        exact z_iret C rfl (Nat.le_of_ble_eq_true rfl) (Nat.le_of_ble_eq_true rfl) d_Entries_first_64
      · have hf := iff_f hf h7
        refine z_iload_n C d_Entries_first_12 3 rfl rfl ?_
        refine z_iconst C d_Entries_first_13 zki_m1 ?_
        refine z_icmp_eq (tgt := 33) C d_Entries_first_14 rfl (fun h6 => ?_) (fun h6 => ?_)
        · have hf := iff_t hf h6
          refine z_iconst C d_Entries_first_33 zki_1 ?_
          refine z_goto (tgt := 38) C d_Entries_first_34 rfl ?_
          exact z_sub [0, 1, 2, 3, 4] rfl (ih.2 _ _ _ _ _ hf)
        · have hf := iff_f hf h6
          refine z_aload_n C d_Entries_first_17 0 rfl rfl ?_
          refine z_iload_n C d_Entries_first_18 1 rfl rfl ?_
          refine z_iload C d_Entries_first_19 4 rfl ?_
          obtain ⟨r2, h1, hf⟩ := bd_s hf
          refine z_cVi C kl_Entries_56 rfl (c_Entries_time hv ho h1) (zent_in hv ho 0 rfl) (zent_shp ho _ _ _ _ _) rfl rfl (Nat.le_of_ble_eq_true rfl) ⟨(Nat.le_of_ble_eq_true rfl), (Nat.le_of_ble_eq_true rfl)⟩ ⟨(Nat.le_of_ble_eq_true rfl), (Nat.le_of_ble_eq_true rfl)⟩ d_Entries_first_21 ?_
          refine z_aload_n C d_Entries_first_24 0 rfl rfl ?_
          refine z_iload_n C d_Entries_first_25 1 rfl rfl ?_
          refine z_iload_n C d_Entries_first_26 3 rfl rfl ?_
          obtain ⟨r4, h3, hf⟩ := bd_s hf
          refine z_cVi C kl_Entries_56 rfl (c_Entries_time hv ho h3) (zent_in hv ho 0 rfl) (zent_shp ho _ _ _ _ _) rfl rfl (Nat.le_of_ble_eq_true rfl) ⟨(Nat.le_of_ble_eq_true rfl), (Nat.le_of_ble_eq_true rfl)⟩ ⟨(Nat.le_of_ble_eq_true rfl), (Nat.le_of_ble_eq_true rfl)⟩ d_Entries_first_27 ?_
          refine z_icmp_ge (tgt := 37) C d_Entries_first_30 rfl (fun h5 => ?_) (fun h5 => ?_)
          · have hf := iff_t hf h5
            refine z_iconst C d_Entries_first_37 zki_0 ?_
            exact z_sub [0, 1, 2, 3, 4] rfl (ih.2 _ _ _ _ _ hf)
          · have hf := iff_f hf h5
            refine z_iconst C d_Entries_first_33 zki_1 ?_
            refine z_goto (tgt := 38) C d_Entries_first_34 rfl ?_
            exact z_sub [0, 1, 2, 3, 4] rfl (ih.2 _ _ _ _ _ hf)
    · intro x1 x2 x3 x4 y0 hf
      rw [e_Entries_first_1] at hf
      refine z_istore C d_Entries_first_38 (by decide) ?_
      refine z_iload_n C d_Entries_first_40 3 rfl rfl ?_
      refine z_iload C d_Entries_first_41 5 rfl ?_
      obtain ⟨r9, h8, hf⟩ := bd_s hf
      refine z_cSNi C kl_Entries_59 (c_Waves_contains h8) rfl rfl (Nat.le_of_ble_eq_true rfl) ⟨(Nat.le_of_ble_eq_true rfl), (Nat.le_of_ble_eq_true rfl)⟩ ⟨(Nat.le_of_ble_eq_true rfl), (Nat.le_of_ble_eq_true rfl)⟩ d_Entries_first_43 ?_
      refine z_if_eq (tgt := 57) C d_Entries_first_46 rfl (fun h11 => ?_) (fun h11 => ?_)
      · have hf := iff_t hf h11
        refine z_iinc C d_Entries_first_57 5 rfl zki_1 (by decide) ?_
        refine z_goto (tgt := 5) C d_Entries_first_60 rfl ?_
        exact z_sub [2, 3, 4, 5, 0] rfl (ih.1 _ _ _ _ _ hf)
      · have hf := iff_f hf h11
        refine z_iload C d_Entries_first_49 0 rfl ?_
        refine z_if_eq (tgt := 57) C d_Entries_first_51 rfl (fun h10 => ?_) (fun h10 => ?_)
        · have hf := iff_t hf h10
          refine z_iinc C d_Entries_first_57 5 rfl zki_1 (by decide) ?_
          refine z_goto (tgt := 5) C d_Entries_first_60 rfl ?_
          exact z_sub [2, 3, 4, 5, 0] rfl (ih.1 _ _ _ _ _ hf)
        · have hf := iff_f hf h10
          refine z_iload C d_Entries_first_54 5 rfl ?_
          refine z_istore_n C d_Entries_first_56 rfl (by decide) ?_
          refine z_iinc C d_Entries_first_57 5 rfl zki_1 (by decide) ?_
          refine z_goto (tgt := 5) C d_Entries_first_60 rfl ?_
          exact z_sub [3, 4, 5, 1, 0] rfl (ih.1 _ _ _ _ _ hf)
def F_Entries_first (v : Nat) (o : Nat) (a0 : Int32) (a1 : Int32) (σ : zSt) : Option (Int32) :=
  L_Entries_first v o σ zK 0 a0 a1 (-1 : Int32) (0 : Int32) 0
set_option maxHeartbeats 4000000 in
set_option maxRecDepth 100000 in
theorem c_Entries_first {l : Launch} {G : zLA} {v : Nat} (hv : zvl G v) {o : Nat} (ho : zent o) {a0 : Int32} {a1 : Int32} {σ : zSt} {r : Int32} (hf : F_Entries_first v o a0 a1 σ = some r) : zM l G y_Entries_first (zws y_Entries_first b_Entries_first 6 (some .int)) rm_Entries_first [.ref (zad G v o), .int a0, .int a1] σ (some (.int r)) σ := by
  refine z_ofM (own := "VillageWaves$Entries") (lv := [(0, .ref (zad G v o)), (1, .int a0), (2, .int a1)]) (by decide +kernel) rfl rfl (Nat.le_of_ble_eq_true rfl) (fun p e s m args below meth c C => ?_)
  rw [F_Entries_first] at hf
  refine z_iconst C d_Entries_first_0 zki_m1 ?_
  refine z_istore_n C d_Entries_first_1 rfl (by decide) ?_
  refine z_iconst C d_Entries_first_2 zki_0 ?_
  refine z_istore C d_Entries_first_3 (by decide) ?_
  exact z_sub [2, 3, 4, 1, 0] rfl ((w_Entries_first C hv ho zK).1 _ _ _ _ _ hf)
abbrev rm_Entries_at : Room := { frames := 3, cells := 0, slots := 0, locals := 68 }
theorem d_Entries_at_0 : decode b_Entries_at 0 = .ok (.aload_n 0, 1) := by decide +kernel
theorem d_Entries_at_1 : decode b_Entries_at 1 = .ok (.getfield 14, 3) := by decide +kernel
theorem d_Entries_at_4 : decode b_Entries_at 4 = .ok (.iload_n 1, 1) := by decide +kernel
theorem d_Entries_at_5 : decode b_Entries_at 5 = .ok (.invokevirtual 44, 3) := by decide +kernel
theorem d_Entries_at_8 : decode b_Entries_at 8 = .ok (.istore_n 3, 1) := by decide +kernel
theorem d_Entries_at_9 : decode b_Entries_at 9 = .ok (.iconst 0, 1) := by decide +kernel
theorem d_Entries_at_10 : decode b_Entries_at 10 = .ok (.istore 4, 2) := by decide +kernel
theorem d_Entries_at_12 : decode b_Entries_at 12 = .ok (.iload 4, 2) := by decide +kernel
theorem d_Entries_at_14 : decode b_Entries_at 14 = .ok (.iload_n 2, 1) := by decide +kernel
theorem d_Entries_at_15 : decode b_Entries_at 15 = .ok (.if_icmp .ge 23, 3) := by decide +kernel
theorem d_Entries_at_18 : decode b_Entries_at 18 = .ok (.iload_n 3, 1) := by decide +kernel
theorem d_Entries_at_19 : decode b_Entries_at 19 = .ok (.aload_n 0, 1) := by decide +kernel
theorem d_Entries_at_20 : decode b_Entries_at 20 = .ok (.iload_n 1, 1) := by decide +kernel
theorem d_Entries_at_21 : decode b_Entries_at 21 = .ok (.iload_n 3, 1) := by decide +kernel
theorem d_Entries_at_22 : decode b_Entries_at 22 = .ok (.invokevirtual 63, 3) := by decide +kernel
theorem d_Entries_at_25 : decode b_Entries_at 25 = .ok (.invokestatic 66, 3) := by decide +kernel
theorem d_Entries_at_28 : decode b_Entries_at 28 = .ok (.iconst (-1), 1) := by decide +kernel
theorem d_Entries_at_29 : decode b_Entries_at 29 = .ok (.ixor, 1) := by decide +kernel
theorem d_Entries_at_30 : decode b_Entries_at 30 = .ok (.iand, 1) := by decide +kernel
theorem d_Entries_at_31 : decode b_Entries_at 31 = .ok (.istore_n 3, 1) := by decide +kernel
theorem d_Entries_at_32 : decode b_Entries_at 32 = .ok (.iinc 4 1, 3) := by decide +kernel
theorem d_Entries_at_35 : decode b_Entries_at 35 = .ok (.goto (-23), 3) := by decide +kernel
theorem d_Entries_at_38 : decode b_Entries_at 38 = .ok (.aload_n 0, 1) := by decide +kernel
theorem d_Entries_at_39 : decode b_Entries_at 39 = .ok (.iload_n 1, 1) := by decide +kernel
theorem d_Entries_at_40 : decode b_Entries_at 40 = .ok (.iload_n 3, 1) := by decide +kernel
theorem d_Entries_at_41 : decode b_Entries_at 41 = .ok (.invokevirtual 63, 3) := by decide +kernel
theorem d_Entries_at_44 : decode b_Entries_at 44 = .ok (.ireturn, 1) := by decide +kernel
def L_Entries_at (v : Nat) (o : Nat) (σ : zSt) : Nat → Nat → Int32 → Int32 → Int32 → Int32 → Option (Int32)
  | 0, _, _, _, _, _ => none
  | n + 1, 0, x1, x2, x3, x4 => if x2 ≤ x4 then ((F_Entries_first v o x1 x3 σ).bind fun r4 => some r4) else ((F_Entries_first v o x1 x3 σ).bind fun r6 => (F_Waves_bit r6 σ).bind fun r8 => L_Entries_at v o σ n 0 x1 x2 (x3 &&& (r8 ^^^ (-1 : Int32))) (x4 + (1 : Int32)))
  | _ + 1, _, _, _, _, _ => none
theorem e_Entries_at_0 (v : Nat) (o : Nat) (σ : zSt) (n : Nat) (x1 : Int32) (x2 : Int32) (x3 : Int32) (x4 : Int32) : L_Entries_at v o σ (n + 1) 0 x1 x2 x3 x4 = (if x2 ≤ x4 then ((F_Entries_first v o x1 x3 σ).bind fun r4 => some r4) else ((F_Entries_first v o x1 x3 σ).bind fun r6 => (F_Waves_bit r6 σ).bind fun r8 => L_Entries_at v o σ n 0 x1 x2 (x3 &&& (r8 ^^^ (-1 : Int32))) (x4 + (1 : Int32)))) := rfl
set_option maxHeartbeats 4000000 in
set_option maxRecDepth 100000 in
theorem w_Entries_at {l : Launch} {G : zLA} {p : Program} {e : Env} {s : State} {m : MethodId} {args : Array Value} {below : List Frame} {meth : Method} {c : Code} (C : zCx G p s m args meth c "VillageWaves$Entries" b_Entries_at 5 (some .int)) {v : Nat} (hv : zvl G v) {o : Nat} (ho : zent o) {σ : zSt} {r : Int32} : ∀ n : Nat, (∀ (x1 : Int32) (x2 : Int32) (x3 : Int32) (x4 : Int32), L_Entries_at v o σ n 0 x1 x2 x3 x4 = some r → zWV G p l e rm_Entries_at s m args below meth c 5 0 0 (zQ G below args s rm_Entries_at (some (.int r)) σ) 12 [(0, .ref (zad G v o)), (1, .int x1), (2, .int x2), (3, .int x3), (4, .int x4)] [] σ) := by
  intro n
  induction n with
  | zero => exact fun _ _ _ _ hf => (by cases hf)
  | succ n ih =>
    refine ?_
    · intro x1 x2 x3 x4 hf
      rw [e_Entries_at_0] at hf
      refine z_iload C d_Entries_at_12 4 rfl ?_
      refine z_iload_n C d_Entries_at_14 2 rfl rfl ?_
      refine z_icmp_ge (tgt := 38) C d_Entries_at_15 rfl (fun h9 => ?_) (fun h9 => ?_)
      · have hf := iff_t hf h9
        refine z_aload_n C d_Entries_at_38 0 rfl rfl ?_
        refine z_iload_n C d_Entries_at_39 1 rfl rfl ?_
        refine z_iload_n C d_Entries_at_40 3 rfl rfl ?_
        obtain ⟨r4, h3, hf⟩ := bd_s hf
        refine z_cVi C kl_Entries_63 rfl (c_Entries_first hv ho h3) (zent_in hv ho 0 rfl) (zent_shp ho _ _ _ _ _) rfl rfl (Nat.le_of_ble_eq_true rfl) ⟨(Nat.le_of_ble_eq_true rfl), (Nat.le_of_ble_eq_true rfl)⟩ ⟨(Nat.le_of_ble_eq_true rfl), (Nat.le_of_ble_eq_true rfl)⟩ d_Entries_at_41 ?_
        cases hf
        exact z_iret C rfl (Nat.le_of_ble_eq_true rfl) (Nat.le_of_ble_eq_true rfl) d_Entries_at_44
      · have hf := iff_f hf h9
        refine z_iload_n C d_Entries_at_18 3 rfl rfl ?_
        refine z_aload_n C d_Entries_at_19 0 rfl rfl ?_
        refine z_iload_n C d_Entries_at_20 1 rfl rfl ?_
        refine z_iload_n C d_Entries_at_21 3 rfl rfl ?_
        obtain ⟨r6, h5, hf⟩ := bd_s hf
        refine z_cVi C kl_Entries_63 rfl (c_Entries_first hv ho h5) (zent_in hv ho 0 rfl) (zent_shp ho _ _ _ _ _) rfl rfl (Nat.le_of_ble_eq_true rfl) ⟨(Nat.le_of_ble_eq_true rfl), (Nat.le_of_ble_eq_true rfl)⟩ ⟨(Nat.le_of_ble_eq_true rfl), (Nat.le_of_ble_eq_true rfl)⟩ d_Entries_at_22 ?_
        obtain ⟨r8, h7, hf⟩ := bd_s hf
        refine z_cSNi C kl_Entries_66 (c_Waves_bit h7) rfl rfl (Nat.le_of_ble_eq_true rfl) ⟨(Nat.le_of_ble_eq_true rfl), (Nat.le_of_ble_eq_true rfl)⟩ ⟨(Nat.le_of_ble_eq_true rfl), (Nat.le_of_ble_eq_true rfl)⟩ d_Entries_at_25 ?_
        refine z_iconst C d_Entries_at_28 zki_m1 ?_
        refine z_ixor C d_Entries_at_29 ?_
        refine z_iand C d_Entries_at_30 ?_
        refine z_istore_n C d_Entries_at_31 rfl (by decide) ?_
        refine z_iinc C d_Entries_at_32 4 rfl zki_1 (by decide) ?_
        refine z_goto (tgt := 12) C d_Entries_at_35 rfl ?_
        exact z_sub [2, 3, 4, 1, 0] rfl (ih _ _ _ _ hf)
def F_Entries_at (v : Nat) (o : Nat) (a0 : Int32) (a1 : Int32) (σ : zSt) : Option (Int32) :=
  (F_Row_get v (o + 1) a0 σ).bind fun r2 => L_Entries_at v o σ zK 0 a0 a1 r2 (0 : Int32)
set_option maxHeartbeats 4000000 in
set_option maxRecDepth 100000 in
theorem c_Entries_at {l : Launch} {G : zLA} {v : Nat} (hv : zvl G v) {o : Nat} (ho : zent o) {a0 : Int32} {a1 : Int32} {σ : zSt} {r : Int32} (hf : F_Entries_at v o a0 a1 σ = some r) : zM l G y_Entries_at (zws y_Entries_at b_Entries_at 5 (some .int)) rm_Entries_at [.ref (zad G v o), .int a0, .int a1] σ (some (.int r)) σ := by
  refine z_ofM (own := "VillageWaves$Entries") (lv := [(0, .ref (zad G v o)), (1, .int a0), (2, .int a1)]) (by decide +kernel) rfl rfl (Nat.le_of_ble_eq_true rfl) (fun p e s m args below meth c C => ?_)
  rw [F_Entries_at] at hf
  refine z_aload_n C d_Entries_at_0 0 rfl rfl ?_
  refine gf_Entries_14 C (zent_in hv ho 0 rfl) (zent_shp ho _ _ _ _ _) rfl d_Entries_at_1 ?_
  refine z_iload_n C d_Entries_at_4 1 rfl rfl ?_
  obtain ⟨r2, h1, hf⟩ := bd_s hf
  refine z_cVi C kl_Entries_44 rfl (c_Row_get (zent_row hv ho 1 rfl) h1) (zent_in hv ho 1 rfl) ((zent_row hv ho 1 rfl).2.2.1 _ _ _ _) rfl rfl (Nat.le_of_ble_eq_true rfl) ⟨(Nat.le_of_ble_eq_true rfl), (Nat.le_of_ble_eq_true rfl)⟩ ⟨(Nat.le_of_ble_eq_true rfl), (Nat.le_of_ble_eq_true rfl)⟩ d_Entries_at_5 ?_
  refine z_istore_n C d_Entries_at_8 rfl (by decide) ?_
  refine z_iconst C d_Entries_at_9 zki_0 ?_
  refine z_istore C d_Entries_at_10 (by decide) ?_
  exact z_sub [2, 3, 4, 1, 0] rfl ((w_Entries_at C hv ho zK) _ _ _ _ hf)
abbrev rm_Tidings_clear : Room := { frames := 0, cells := 0, slots := 0, locals := 0 }
theorem d_Tidings_clear_0 : decode b_Tidings_clear 0 = .ok (.aload_n 0, 1) := by decide +kernel
theorem d_Tidings_clear_1 : decode b_Tidings_clear 1 = .ok (.iconst 0, 1) := by decide +kernel
theorem d_Tidings_clear_2 : decode b_Tidings_clear 2 = .ok (.putfield 9, 3) := by decide +kernel
theorem d_Tidings_clear_5 : decode b_Tidings_clear 5 = .ok (.return_, 1) := by decide +kernel
def F_Tidings_clear (v : Nat) (σ : zSt) : Option (zSt) :=
  some (zst σ v 24 0 (0 : Int32))
set_option maxHeartbeats 4000000 in
set_option maxRecDepth 100000 in
theorem c_Tidings_clear {l : Launch} {G : zLA} {v : Nat} (hv : zvl G v) {σ : zSt} {σ' : zSt} (hf : F_Tidings_clear v σ = some σ') : zM l G y_Tidings_clear (zws y_Tidings_clear b_Tidings_clear 1 none) rm_Tidings_clear [.ref (zad G v 24)] σ none σ' := by
  refine z_ofM (own := "VillageWaves$Tidings") (lv := [(0, .ref (zad G v 24))]) (by decide +kernel) rfl rfl (Nat.le_of_ble_eq_true rfl) (fun p e s m args below meth c C => ?_)
  rw [F_Tidings_clear] at hf
  refine z_aload_n C d_Tidings_clear_0 0 rfl rfl ?_
  refine z_iconst C d_Tidings_clear_1 zki_0 ?_
  refine pf_Tidings_9 C (zlv hv 24 rfl) rfl (Nat.le_of_ble_eq_true rfl) rfl d_Tidings_clear_2 ?_
  cases hf
  exact z_vret C rfl (Nat.le_of_ble_eq_true rfl) (Nat.le_of_ble_eq_true rfl) d_Tidings_clear_5
abbrev rm_Tidings_copyFrom : Room := { frames := 2, cells := 0, slots := 0, locals := 111 }
theorem d_Tidings_copyFrom_0 : decode b_Tidings_copyFrom 0 = .ok (.aload_n 0, 1) := by decide +kernel
theorem d_Tidings_copyFrom_1 : decode b_Tidings_copyFrom 1 = .ok (.aload_n 1, 1) := by decide +kernel
theorem d_Tidings_copyFrom_2 : decode b_Tidings_copyFrom 2 = .ok (.getfield 9, 3) := by decide +kernel
theorem d_Tidings_copyFrom_5 : decode b_Tidings_copyFrom 5 = .ok (.putfield 9, 3) := by decide +kernel
theorem d_Tidings_copyFrom_8 : decode b_Tidings_copyFrom 8 = .ok (.aload_n 0, 1) := by decide +kernel
theorem d_Tidings_copyFrom_9 : decode b_Tidings_copyFrom 9 = .ok (.getfield 20, 3) := by decide +kernel
theorem d_Tidings_copyFrom_12 : decode b_Tidings_copyFrom 12 = .ok (.aload_n 1, 1) := by decide +kernel
theorem d_Tidings_copyFrom_13 : decode b_Tidings_copyFrom 13 = .ok (.getfield 20, 3) := by decide +kernel
theorem d_Tidings_copyFrom_16 : decode b_Tidings_copyFrom 16 = .ok (.invokevirtual 48, 3) := by decide +kernel
theorem d_Tidings_copyFrom_19 : decode b_Tidings_copyFrom 19 = .ok (.aload_n 0, 1) := by decide +kernel
theorem d_Tidings_copyFrom_20 : decode b_Tidings_copyFrom 20 = .ok (.getfield 24, 3) := by decide +kernel
theorem d_Tidings_copyFrom_23 : decode b_Tidings_copyFrom 23 = .ok (.aload_n 1, 1) := by decide +kernel
theorem d_Tidings_copyFrom_24 : decode b_Tidings_copyFrom 24 = .ok (.getfield 24, 3) := by decide +kernel
theorem d_Tidings_copyFrom_27 : decode b_Tidings_copyFrom 27 = .ok (.invokevirtual 48, 3) := by decide +kernel
theorem d_Tidings_copyFrom_30 : decode b_Tidings_copyFrom 30 = .ok (.aload_n 0, 1) := by decide +kernel
theorem d_Tidings_copyFrom_31 : decode b_Tidings_copyFrom 31 = .ok (.getfield 27, 3) := by decide +kernel
theorem d_Tidings_copyFrom_34 : decode b_Tidings_copyFrom 34 = .ok (.aload_n 1, 1) := by decide +kernel
theorem d_Tidings_copyFrom_35 : decode b_Tidings_copyFrom 35 = .ok (.getfield 27, 3) := by decide +kernel
theorem d_Tidings_copyFrom_38 : decode b_Tidings_copyFrom 38 = .ok (.invokevirtual 48, 3) := by decide +kernel
theorem d_Tidings_copyFrom_41 : decode b_Tidings_copyFrom 41 = .ok (.aload_n 0, 1) := by decide +kernel
theorem d_Tidings_copyFrom_42 : decode b_Tidings_copyFrom 42 = .ok (.getfield 30, 3) := by decide +kernel
theorem d_Tidings_copyFrom_45 : decode b_Tidings_copyFrom 45 = .ok (.aload_n 1, 1) := by decide +kernel
theorem d_Tidings_copyFrom_46 : decode b_Tidings_copyFrom 46 = .ok (.getfield 30, 3) := by decide +kernel
theorem d_Tidings_copyFrom_49 : decode b_Tidings_copyFrom 49 = .ok (.invokevirtual 48, 3) := by decide +kernel
theorem d_Tidings_copyFrom_52 : decode b_Tidings_copyFrom 52 = .ok (.aload_n 0, 1) := by decide +kernel
theorem d_Tidings_copyFrom_53 : decode b_Tidings_copyFrom 53 = .ok (.getfield 33, 3) := by decide +kernel
theorem d_Tidings_copyFrom_56 : decode b_Tidings_copyFrom 56 = .ok (.aload_n 1, 1) := by decide +kernel
theorem d_Tidings_copyFrom_57 : decode b_Tidings_copyFrom 57 = .ok (.getfield 33, 3) := by decide +kernel
theorem d_Tidings_copyFrom_60 : decode b_Tidings_copyFrom 60 = .ok (.invokevirtual 48, 3) := by decide +kernel
theorem d_Tidings_copyFrom_63 : decode b_Tidings_copyFrom 63 = .ok (.aload_n 0, 1) := by decide +kernel
theorem d_Tidings_copyFrom_64 : decode b_Tidings_copyFrom 64 = .ok (.getfield 36, 3) := by decide +kernel
theorem d_Tidings_copyFrom_67 : decode b_Tidings_copyFrom 67 = .ok (.aload_n 1, 1) := by decide +kernel
theorem d_Tidings_copyFrom_68 : decode b_Tidings_copyFrom 68 = .ok (.getfield 36, 3) := by decide +kernel
theorem d_Tidings_copyFrom_71 : decode b_Tidings_copyFrom 71 = .ok (.invokevirtual 48, 3) := by decide +kernel
theorem d_Tidings_copyFrom_74 : decode b_Tidings_copyFrom 74 = .ok (.aload_n 0, 1) := by decide +kernel
theorem d_Tidings_copyFrom_75 : decode b_Tidings_copyFrom 75 = .ok (.getfield 39, 3) := by decide +kernel
theorem d_Tidings_copyFrom_78 : decode b_Tidings_copyFrom 78 = .ok (.aload_n 1, 1) := by decide +kernel
theorem d_Tidings_copyFrom_79 : decode b_Tidings_copyFrom 79 = .ok (.getfield 39, 3) := by decide +kernel
theorem d_Tidings_copyFrom_82 : decode b_Tidings_copyFrom 82 = .ok (.invokevirtual 48, 3) := by decide +kernel
theorem d_Tidings_copyFrom_85 : decode b_Tidings_copyFrom 85 = .ok (.aload_n 0, 1) := by decide +kernel
theorem d_Tidings_copyFrom_86 : decode b_Tidings_copyFrom 86 = .ok (.getfield 42, 3) := by decide +kernel
theorem d_Tidings_copyFrom_89 : decode b_Tidings_copyFrom 89 = .ok (.aload_n 1, 1) := by decide +kernel
theorem d_Tidings_copyFrom_90 : decode b_Tidings_copyFrom 90 = .ok (.getfield 42, 3) := by decide +kernel
theorem d_Tidings_copyFrom_93 : decode b_Tidings_copyFrom 93 = .ok (.invokevirtual 48, 3) := by decide +kernel
theorem d_Tidings_copyFrom_96 : decode b_Tidings_copyFrom 96 = .ok (.aload_n 0, 1) := by decide +kernel
theorem d_Tidings_copyFrom_97 : decode b_Tidings_copyFrom 97 = .ok (.getfield 45, 3) := by decide +kernel
theorem d_Tidings_copyFrom_100 : decode b_Tidings_copyFrom 100 = .ok (.aload_n 1, 1) := by decide +kernel
theorem d_Tidings_copyFrom_101 : decode b_Tidings_copyFrom 101 = .ok (.getfield 45, 3) := by decide +kernel
theorem d_Tidings_copyFrom_104 : decode b_Tidings_copyFrom 104 = .ok (.invokevirtual 48, 3) := by decide +kernel
theorem d_Tidings_copyFrom_107 : decode b_Tidings_copyFrom 107 = .ok (.return_, 1) := by decide +kernel
def F_Tidings_copyFrom (v : Nat) (v2 : Nat) (σ : zSt) : Option (zSt) :=
  (F_Row_copyFrom v 25 v2 25 (zst σ v 24 0 (σ.1 v2 24 0))).bind fun σ2 => (F_Row_copyFrom v 27 v2 27 σ2).bind fun σ4 => (F_Row_copyFrom v 29 v2 29 σ4).bind fun σ6 => (F_Row_copyFrom v 31 v2 31 σ6).bind fun σ8 => (F_Row_copyFrom v 33 v2 33 σ8).bind fun σ10 => (F_Row_copyFrom v 35 v2 35 σ10).bind fun σ12 => (F_Row_copyFrom v 37 v2 37 σ12).bind fun σ14 => (F_Row_copyFrom v 39 v2 39 σ14).bind fun σ16 => (F_Row_copyFrom v 41 v2 41 σ16).bind fun σ18 => some σ18
set_option maxHeartbeats 4000000 in
set_option maxRecDepth 100000 in
theorem c_Tidings_copyFrom {l : Launch} {G : zLA} {v : Nat} (hv : zvl G v) {v2 : Nat} (hv2 : zvl G v2) {σ : zSt} {σ' : zSt} (hf : F_Tidings_copyFrom v v2 σ = some σ') : zM l G y_Tidings_copyFrom (zws y_Tidings_copyFrom b_Tidings_copyFrom 2 none) rm_Tidings_copyFrom [.ref (zad G v 24), .ref (zad G v2 24)] σ none σ' := by
  refine z_ofM (own := "VillageWaves$Tidings") (lv := [(0, .ref (zad G v 24)), (1, .ref (zad G v2 24))]) (by decide +kernel) rfl rfl (Nat.le_of_ble_eq_true rfl) (fun p e s m args below meth c C => ?_)
  rw [F_Tidings_copyFrom] at hf
  refine z_aload_n C d_Tidings_copyFrom_0 0 rfl rfl ?_
  refine z_aload_n C d_Tidings_copyFrom_1 1 rfl rfl ?_
  refine gf_Tidings_9 C (zlv hv2 24 rfl) rfl rfl d_Tidings_copyFrom_2 ?_
  refine pf_Tidings_9 C (zlv hv 24 rfl) rfl (Nat.le_of_ble_eq_true rfl) rfl d_Tidings_copyFrom_5 ?_
  refine z_aload_n C d_Tidings_copyFrom_8 0 rfl rfl ?_
  refine gf_Tidings_20 C (zlv hv 24 rfl) rfl rfl d_Tidings_copyFrom_9 ?_
  refine z_aload_n C d_Tidings_copyFrom_12 1 rfl rfl ?_
  refine gf_Tidings_20 C (zlv hv2 24 rfl) rfl rfl d_Tidings_copyFrom_13 ?_
  obtain ⟨σ2, h1, hf⟩ := bd_s hf
  refine z_cVv C kl_Tidings_48 rfl (c_Row_copyFrom (zrow_v hv 25 rfl) (zrow_v hv2 25 rfl) h1) (zlv hv 25 rfl) rfl rfl rfl (Nat.le_of_ble_eq_true rfl) ⟨(Nat.le_of_ble_eq_true rfl), (Nat.le_of_ble_eq_true rfl)⟩ ⟨(Nat.le_of_ble_eq_true rfl), (Nat.le_of_ble_eq_true rfl)⟩ d_Tidings_copyFrom_16 ?_
  refine z_aload_n C d_Tidings_copyFrom_19 0 rfl rfl ?_
  refine gf_Tidings_24 C (zlv hv 24 rfl) rfl rfl d_Tidings_copyFrom_20 ?_
  refine z_aload_n C d_Tidings_copyFrom_23 1 rfl rfl ?_
  refine gf_Tidings_24 C (zlv hv2 24 rfl) rfl rfl d_Tidings_copyFrom_24 ?_
  obtain ⟨σ4, h3, hf⟩ := bd_s hf
  refine z_cVv C kl_Tidings_48 rfl (c_Row_copyFrom (zrow_v hv 27 rfl) (zrow_v hv2 27 rfl) h3) (zlv hv 27 rfl) rfl rfl rfl (Nat.le_of_ble_eq_true rfl) ⟨(Nat.le_of_ble_eq_true rfl), (Nat.le_of_ble_eq_true rfl)⟩ ⟨(Nat.le_of_ble_eq_true rfl), (Nat.le_of_ble_eq_true rfl)⟩ d_Tidings_copyFrom_27 ?_
  refine z_aload_n C d_Tidings_copyFrom_30 0 rfl rfl ?_
  refine gf_Tidings_27 C (zlv hv 24 rfl) rfl rfl d_Tidings_copyFrom_31 ?_
  refine z_aload_n C d_Tidings_copyFrom_34 1 rfl rfl ?_
  refine gf_Tidings_27 C (zlv hv2 24 rfl) rfl rfl d_Tidings_copyFrom_35 ?_
  obtain ⟨σ6, h5, hf⟩ := bd_s hf
  refine z_cVv C kl_Tidings_48 rfl (c_Row_copyFrom (zrow_v hv 29 rfl) (zrow_v hv2 29 rfl) h5) (zlv hv 29 rfl) rfl rfl rfl (Nat.le_of_ble_eq_true rfl) ⟨(Nat.le_of_ble_eq_true rfl), (Nat.le_of_ble_eq_true rfl)⟩ ⟨(Nat.le_of_ble_eq_true rfl), (Nat.le_of_ble_eq_true rfl)⟩ d_Tidings_copyFrom_38 ?_
  refine z_aload_n C d_Tidings_copyFrom_41 0 rfl rfl ?_
  refine gf_Tidings_30 C (zlv hv 24 rfl) rfl rfl d_Tidings_copyFrom_42 ?_
  refine z_aload_n C d_Tidings_copyFrom_45 1 rfl rfl ?_
  refine gf_Tidings_30 C (zlv hv2 24 rfl) rfl rfl d_Tidings_copyFrom_46 ?_
  obtain ⟨σ8, h7, hf⟩ := bd_s hf
  refine z_cVv C kl_Tidings_48 rfl (c_Row_copyFrom (zrow_v hv 31 rfl) (zrow_v hv2 31 rfl) h7) (zlv hv 31 rfl) rfl rfl rfl (Nat.le_of_ble_eq_true rfl) ⟨(Nat.le_of_ble_eq_true rfl), (Nat.le_of_ble_eq_true rfl)⟩ ⟨(Nat.le_of_ble_eq_true rfl), (Nat.le_of_ble_eq_true rfl)⟩ d_Tidings_copyFrom_49 ?_
  refine z_aload_n C d_Tidings_copyFrom_52 0 rfl rfl ?_
  refine gf_Tidings_33 C (zlv hv 24 rfl) rfl rfl d_Tidings_copyFrom_53 ?_
  refine z_aload_n C d_Tidings_copyFrom_56 1 rfl rfl ?_
  refine gf_Tidings_33 C (zlv hv2 24 rfl) rfl rfl d_Tidings_copyFrom_57 ?_
  obtain ⟨σ10, h9, hf⟩ := bd_s hf
  refine z_cVv C kl_Tidings_48 rfl (c_Row_copyFrom (zrow_v hv 33 rfl) (zrow_v hv2 33 rfl) h9) (zlv hv 33 rfl) rfl rfl rfl (Nat.le_of_ble_eq_true rfl) ⟨(Nat.le_of_ble_eq_true rfl), (Nat.le_of_ble_eq_true rfl)⟩ ⟨(Nat.le_of_ble_eq_true rfl), (Nat.le_of_ble_eq_true rfl)⟩ d_Tidings_copyFrom_60 ?_
  refine z_aload_n C d_Tidings_copyFrom_63 0 rfl rfl ?_
  refine gf_Tidings_36 C (zlv hv 24 rfl) rfl rfl d_Tidings_copyFrom_64 ?_
  refine z_aload_n C d_Tidings_copyFrom_67 1 rfl rfl ?_
  refine gf_Tidings_36 C (zlv hv2 24 rfl) rfl rfl d_Tidings_copyFrom_68 ?_
  obtain ⟨σ12, h11, hf⟩ := bd_s hf
  refine z_cVv C kl_Tidings_48 rfl (c_Row_copyFrom (zrow_v hv 35 rfl) (zrow_v hv2 35 rfl) h11) (zlv hv 35 rfl) rfl rfl rfl (Nat.le_of_ble_eq_true rfl) ⟨(Nat.le_of_ble_eq_true rfl), (Nat.le_of_ble_eq_true rfl)⟩ ⟨(Nat.le_of_ble_eq_true rfl), (Nat.le_of_ble_eq_true rfl)⟩ d_Tidings_copyFrom_71 ?_
  refine z_aload_n C d_Tidings_copyFrom_74 0 rfl rfl ?_
  refine gf_Tidings_39 C (zlv hv 24 rfl) rfl rfl d_Tidings_copyFrom_75 ?_
  refine z_aload_n C d_Tidings_copyFrom_78 1 rfl rfl ?_
  refine gf_Tidings_39 C (zlv hv2 24 rfl) rfl rfl d_Tidings_copyFrom_79 ?_
  obtain ⟨σ14, h13, hf⟩ := bd_s hf
  refine z_cVv C kl_Tidings_48 rfl (c_Row_copyFrom (zrow_v hv 37 rfl) (zrow_v hv2 37 rfl) h13) (zlv hv 37 rfl) rfl rfl rfl (Nat.le_of_ble_eq_true rfl) ⟨(Nat.le_of_ble_eq_true rfl), (Nat.le_of_ble_eq_true rfl)⟩ ⟨(Nat.le_of_ble_eq_true rfl), (Nat.le_of_ble_eq_true rfl)⟩ d_Tidings_copyFrom_82 ?_
  refine z_aload_n C d_Tidings_copyFrom_85 0 rfl rfl ?_
  refine gf_Tidings_42 C (zlv hv 24 rfl) rfl rfl d_Tidings_copyFrom_86 ?_
  refine z_aload_n C d_Tidings_copyFrom_89 1 rfl rfl ?_
  refine gf_Tidings_42 C (zlv hv2 24 rfl) rfl rfl d_Tidings_copyFrom_90 ?_
  obtain ⟨σ16, h15, hf⟩ := bd_s hf
  refine z_cVv C kl_Tidings_48 rfl (c_Row_copyFrom (zrow_v hv 39 rfl) (zrow_v hv2 39 rfl) h15) (zlv hv 39 rfl) rfl rfl rfl (Nat.le_of_ble_eq_true rfl) ⟨(Nat.le_of_ble_eq_true rfl), (Nat.le_of_ble_eq_true rfl)⟩ ⟨(Nat.le_of_ble_eq_true rfl), (Nat.le_of_ble_eq_true rfl)⟩ d_Tidings_copyFrom_93 ?_
  refine z_aload_n C d_Tidings_copyFrom_96 0 rfl rfl ?_
  refine gf_Tidings_45 C (zlv hv 24 rfl) rfl rfl d_Tidings_copyFrom_97 ?_
  refine z_aload_n C d_Tidings_copyFrom_100 1 rfl rfl ?_
  refine gf_Tidings_45 C (zlv hv2 24 rfl) rfl rfl d_Tidings_copyFrom_101 ?_
  obtain ⟨σ18, h17, hf⟩ := bd_s hf
  refine z_cVv C kl_Tidings_48 rfl (c_Row_copyFrom (zrow_v hv 41 rfl) (zrow_v hv2 41 rfl) h17) (zlv hv 41 rfl) rfl rfl rfl (Nat.le_of_ble_eq_true rfl) ⟨(Nat.le_of_ble_eq_true rfl), (Nat.le_of_ble_eq_true rfl)⟩ ⟨(Nat.le_of_ble_eq_true rfl), (Nat.le_of_ble_eq_true rfl)⟩ d_Tidings_copyFrom_104 ?_
  cases hf
  exact z_vret C rfl (Nat.le_of_ble_eq_true rfl) (Nat.le_of_ble_eq_true rfl) d_Tidings_copyFrom_107
abbrev rm_Tidings_isFull : Room := { frames := 0, cells := 0, slots := 0, locals := 0 }
theorem d_Tidings_isFull_0 : decode b_Tidings_isFull 0 = .ok (.aload_n 0, 1) := by decide +kernel
theorem d_Tidings_isFull_1 : decode b_Tidings_isFull 1 = .ok (.getfield 9, 3) := by decide +kernel
theorem d_Tidings_isFull_4 : decode b_Tidings_isFull 4 = .ok (.bipush 20, 2) := by decide +kernel
theorem d_Tidings_isFull_6 : decode b_Tidings_isFull 6 = .ok (.if_icmp .lt 7, 3) := by decide +kernel
theorem d_Tidings_isFull_9 : decode b_Tidings_isFull 9 = .ok (.iconst 1, 1) := by decide +kernel
theorem d_Tidings_isFull_10 : decode b_Tidings_isFull 10 = .ok (.goto 4, 3) := by decide +kernel
theorem d_Tidings_isFull_13 : decode b_Tidings_isFull 13 = .ok (.iconst 0, 1) := by decide +kernel
theorem d_Tidings_isFull_14 : decode b_Tidings_isFull 14 = .ok (.ireturn, 1) := by decide +kernel
def F_Tidings_isFull (v : Nat) (σ : zSt) : Option (Int32) :=
  if (σ.1 v 24 0) < (20 : Int32) then some (0 : Int32) else some (1 : Int32)
set_option maxHeartbeats 4000000 in
set_option maxRecDepth 100000 in
theorem c_Tidings_isFull {l : Launch} {G : zLA} {v : Nat} (hv : zvl G v) {σ : zSt} {r : Int32} (hf : F_Tidings_isFull v σ = some r) : zM l G y_Tidings_isFull (zws y_Tidings_isFull b_Tidings_isFull 1 (some .boolean)) rm_Tidings_isFull [.ref (zad G v 24)] σ (some (.int r)) σ := by
  refine z_ofM (own := "VillageWaves$Tidings") (lv := [(0, .ref (zad G v 24))]) (by decide +kernel) rfl rfl (Nat.le_of_ble_eq_true rfl) (fun p e s m args below meth c C => ?_)
  rw [F_Tidings_isFull] at hf
  refine z_aload_n C d_Tidings_isFull_0 0 rfl rfl ?_
  refine gf_Tidings_9 C (zlv hv 24 rfl) rfl rfl d_Tidings_isFull_1 ?_
  refine z_bipush C d_Tidings_isFull_4 zkb_20 ?_
  refine z_icmp_lt (tgt := 13) C d_Tidings_isFull_6 rfl (fun h1 => ?_) (fun h1 => ?_)
  · have hf := iff_t hf h1
    refine z_iconst C d_Tidings_isFull_13 zki_0 ?_
    cases hf
    exact z_zret C rfl rfl (Nat.le_of_ble_eq_true rfl) (Nat.le_of_ble_eq_true rfl) d_Tidings_isFull_14
  · have hf := iff_f hf h1
    refine z_iconst C d_Tidings_isFull_9 zki_1 ?_
    refine z_goto (tgt := 14) C d_Tidings_isFull_10 rfl ?_
    cases hf
    exact z_zret C rfl rfl (Nat.le_of_ble_eq_true rfl) (Nat.le_of_ble_eq_true rfl) d_Tidings_isFull_14
abbrev rm_Tidings_add : Room := { frames := 1, cells := 0, slots := 0, locals := 22 }
theorem d_Tidings_add_0 : decode b_Tidings_add 0 = .ok (.aload_n 0, 1) := by decide +kernel
theorem d_Tidings_add_1 : decode b_Tidings_add 1 = .ok (.getfield 9, 3) := by decide +kernel
theorem d_Tidings_add_4 : decode b_Tidings_add 4 = .ok (.istore 4, 2) := by decide +kernel
theorem d_Tidings_add_6 : decode b_Tidings_add 6 = .ok (.aload_n 0, 1) := by decide +kernel
theorem d_Tidings_add_7 : decode b_Tidings_add 7 = .ok (.getfield 20, 3) := by decide +kernel
theorem d_Tidings_add_10 : decode b_Tidings_add 10 = .ok (.iload 4, 2) := by decide +kernel
theorem d_Tidings_add_12 : decode b_Tidings_add 12 = .ok (.iload_n 1, 1) := by decide +kernel
theorem d_Tidings_add_13 : decode b_Tidings_add 13 = .ok (.invokevirtual 52, 3) := by decide +kernel
theorem d_Tidings_add_16 : decode b_Tidings_add 16 = .ok (.aload_n 0, 1) := by decide +kernel
theorem d_Tidings_add_17 : decode b_Tidings_add 17 = .ok (.getfield 24, 3) := by decide +kernel
theorem d_Tidings_add_20 : decode b_Tidings_add 20 = .ok (.iload 4, 2) := by decide +kernel
theorem d_Tidings_add_22 : decode b_Tidings_add 22 = .ok (.iload_n 2, 1) := by decide +kernel
theorem d_Tidings_add_23 : decode b_Tidings_add 23 = .ok (.invokevirtual 52, 3) := by decide +kernel
theorem d_Tidings_add_26 : decode b_Tidings_add 26 = .ok (.aload_n 0, 1) := by decide +kernel
theorem d_Tidings_add_27 : decode b_Tidings_add 27 = .ok (.getfield 27, 3) := by decide +kernel
theorem d_Tidings_add_30 : decode b_Tidings_add 30 = .ok (.iload 4, 2) := by decide +kernel
theorem d_Tidings_add_32 : decode b_Tidings_add 32 = .ok (.iload_n 3, 1) := by decide +kernel
theorem d_Tidings_add_33 : decode b_Tidings_add 33 = .ok (.invokevirtual 52, 3) := by decide +kernel
theorem d_Tidings_add_36 : decode b_Tidings_add 36 = .ok (.aload_n 0, 1) := by decide +kernel
theorem d_Tidings_add_37 : decode b_Tidings_add 37 = .ok (.getfield 30, 3) := by decide +kernel
theorem d_Tidings_add_40 : decode b_Tidings_add 40 = .ok (.iload 4, 2) := by decide +kernel
theorem d_Tidings_add_42 : decode b_Tidings_add 42 = .ok (.iconst (-1), 1) := by decide +kernel
theorem d_Tidings_add_43 : decode b_Tidings_add 43 = .ok (.invokevirtual 52, 3) := by decide +kernel
theorem d_Tidings_add_46 : decode b_Tidings_add 46 = .ok (.aload_n 0, 1) := by decide +kernel
theorem d_Tidings_add_47 : decode b_Tidings_add 47 = .ok (.getfield 33, 3) := by decide +kernel
theorem d_Tidings_add_50 : decode b_Tidings_add 50 = .ok (.iload 4, 2) := by decide +kernel
theorem d_Tidings_add_52 : decode b_Tidings_add 52 = .ok (.iconst (-1), 1) := by decide +kernel
theorem d_Tidings_add_53 : decode b_Tidings_add 53 = .ok (.invokevirtual 52, 3) := by decide +kernel
theorem d_Tidings_add_56 : decode b_Tidings_add 56 = .ok (.aload_n 0, 1) := by decide +kernel
theorem d_Tidings_add_57 : decode b_Tidings_add 57 = .ok (.getfield 36, 3) := by decide +kernel
theorem d_Tidings_add_60 : decode b_Tidings_add 60 = .ok (.iload 4, 2) := by decide +kernel
theorem d_Tidings_add_62 : decode b_Tidings_add 62 = .ok (.iconst (-1), 1) := by decide +kernel
theorem d_Tidings_add_63 : decode b_Tidings_add 63 = .ok (.invokevirtual 52, 3) := by decide +kernel
theorem d_Tidings_add_66 : decode b_Tidings_add 66 = .ok (.aload_n 0, 1) := by decide +kernel
theorem d_Tidings_add_67 : decode b_Tidings_add 67 = .ok (.getfield 39, 3) := by decide +kernel
theorem d_Tidings_add_70 : decode b_Tidings_add 70 = .ok (.iload 4, 2) := by decide +kernel
theorem d_Tidings_add_72 : decode b_Tidings_add 72 = .ok (.iload_n 1, 1) := by decide +kernel
theorem d_Tidings_add_73 : decode b_Tidings_add 73 = .ok (.invokestatic 56, 3) := by decide +kernel
theorem d_Tidings_add_76 : decode b_Tidings_add 76 = .ok (.invokevirtual 52, 3) := by decide +kernel
theorem d_Tidings_add_79 : decode b_Tidings_add 79 = .ok (.aload_n 0, 1) := by decide +kernel
theorem d_Tidings_add_80 : decode b_Tidings_add 80 = .ok (.getfield 42, 3) := by decide +kernel
theorem d_Tidings_add_83 : decode b_Tidings_add 83 = .ok (.iload 4, 2) := by decide +kernel
theorem d_Tidings_add_85 : decode b_Tidings_add 85 = .ok (.iconst 0, 1) := by decide +kernel
theorem d_Tidings_add_86 : decode b_Tidings_add 86 = .ok (.invokevirtual 52, 3) := by decide +kernel
theorem d_Tidings_add_89 : decode b_Tidings_add 89 = .ok (.aload_n 0, 1) := by decide +kernel
theorem d_Tidings_add_90 : decode b_Tidings_add 90 = .ok (.getfield 45, 3) := by decide +kernel
theorem d_Tidings_add_93 : decode b_Tidings_add 93 = .ok (.iload 4, 2) := by decide +kernel
theorem d_Tidings_add_95 : decode b_Tidings_add 95 = .ok (.iconst 0, 1) := by decide +kernel
theorem d_Tidings_add_96 : decode b_Tidings_add 96 = .ok (.invokevirtual 52, 3) := by decide +kernel
theorem d_Tidings_add_99 : decode b_Tidings_add 99 = .ok (.aload_n 0, 1) := by decide +kernel
theorem d_Tidings_add_100 : decode b_Tidings_add 100 = .ok (.iload 4, 2) := by decide +kernel
theorem d_Tidings_add_102 : decode b_Tidings_add 102 = .ok (.iconst 1, 1) := by decide +kernel
theorem d_Tidings_add_103 : decode b_Tidings_add 103 = .ok (.iadd, 1) := by decide +kernel
theorem d_Tidings_add_104 : decode b_Tidings_add 104 = .ok (.putfield 9, 3) := by decide +kernel
theorem d_Tidings_add_107 : decode b_Tidings_add 107 = .ok (.iload 4, 2) := by decide +kernel
theorem d_Tidings_add_109 : decode b_Tidings_add 109 = .ok (.ireturn, 1) := by decide +kernel
def F_Tidings_add (v : Nat) (a0 : Int32) (a1 : Int32) (a2 : Int32) (σ : zSt) : Option (Int32 × zSt) :=
  (F_Row_put v 25 (σ.1 v 24 0) a0 σ).bind fun σ2 => (F_Row_put v 27 (σ.1 v 24 0) a1 σ2).bind fun σ4 => (F_Row_put v 29 (σ.1 v 24 0) a2 σ4).bind fun σ6 => (F_Row_put v 31 (σ.1 v 24 0) (-1 : Int32) σ6).bind fun σ8 => (F_Row_put v 33 (σ.1 v 24 0) (-1 : Int32) σ8).bind fun σ10 => (F_Row_put v 35 (σ.1 v 24 0) (-1 : Int32) σ10).bind fun σ12 => (F_Waves_bit a0 σ12).bind fun r14 => (F_Row_put v 37 (σ.1 v 24 0) r14 σ12).bind fun σ16 => (F_Row_put v 39 (σ.1 v 24 0) (0 : Int32) σ16).bind fun σ18 => (F_Row_put v 41 (σ.1 v 24 0) (0 : Int32) σ18).bind fun σ20 => some ((σ.1 v 24 0), (zst σ20 v 24 0 ((σ.1 v 24 0) + (1 : Int32))))
set_option maxHeartbeats 4000000 in
set_option maxRecDepth 100000 in
theorem c_Tidings_add {l : Launch} {G : zLA} {v : Nat} (hv : zvl G v) {a0 : Int32} {a1 : Int32} {a2 : Int32} {σ : zSt} {r : Int32} {σ' : zSt} (hf : F_Tidings_add v a0 a1 a2 σ = some (r, σ')) : zM l G y_Tidings_add (zws y_Tidings_add b_Tidings_add 5 (some .int)) rm_Tidings_add [.ref (zad G v 24), .int a0, .int a1, .int a2] σ (some (.int r)) σ' := by
  refine z_ofM (own := "VillageWaves$Tidings") (lv := [(0, .ref (zad G v 24)), (1, .int a0), (2, .int a1), (3, .int a2)]) (by decide +kernel) rfl rfl (Nat.le_of_ble_eq_true rfl) (fun p e s m args below meth c C => ?_)
  rw [F_Tidings_add] at hf
  refine z_aload_n C d_Tidings_add_0 0 rfl rfl ?_
  refine gf_Tidings_9 C (zlv hv 24 rfl) rfl rfl d_Tidings_add_1 ?_
  refine z_istore C d_Tidings_add_4 (by decide) ?_
  refine z_aload_n C d_Tidings_add_6 1 rfl rfl ?_
  refine gf_Tidings_20 C (zlv hv 24 rfl) rfl rfl d_Tidings_add_7 ?_
  refine z_iload C d_Tidings_add_10 0 rfl ?_
  refine z_iload_n C d_Tidings_add_12 2 rfl rfl ?_
  obtain ⟨σ2, h1, hf⟩ := bd_s hf
  refine z_cVv C kl_Tidings_52 rfl (c_Row_put (zrow_v hv 25 rfl) h1) (zlv hv 25 rfl) rfl rfl rfl (Nat.le_of_ble_eq_true rfl) ⟨(Nat.le_of_ble_eq_true rfl), (Nat.le_of_ble_eq_true rfl)⟩ ⟨(Nat.le_of_ble_eq_true rfl), (Nat.le_of_ble_eq_true rfl)⟩ d_Tidings_add_13 ?_
  refine z_aload_n C d_Tidings_add_16 1 rfl rfl ?_
  refine gf_Tidings_24 C (zlv hv 24 rfl) rfl rfl d_Tidings_add_17 ?_
  refine z_iload C d_Tidings_add_20 0 rfl ?_
  refine z_iload_n C d_Tidings_add_22 3 rfl rfl ?_
  obtain ⟨σ4, h3, hf⟩ := bd_s hf
  refine z_cVv C kl_Tidings_52 rfl (c_Row_put (zrow_v hv 27 rfl) h3) (zlv hv 27 rfl) rfl rfl rfl (Nat.le_of_ble_eq_true rfl) ⟨(Nat.le_of_ble_eq_true rfl), (Nat.le_of_ble_eq_true rfl)⟩ ⟨(Nat.le_of_ble_eq_true rfl), (Nat.le_of_ble_eq_true rfl)⟩ d_Tidings_add_23 ?_
  refine z_aload_n C d_Tidings_add_26 1 rfl rfl ?_
  refine gf_Tidings_27 C (zlv hv 24 rfl) rfl rfl d_Tidings_add_27 ?_
  refine z_iload C d_Tidings_add_30 0 rfl ?_
  refine z_iload_n C d_Tidings_add_32 4 rfl rfl ?_
  obtain ⟨σ6, h5, hf⟩ := bd_s hf
  refine z_cVv C kl_Tidings_52 rfl (c_Row_put (zrow_v hv 29 rfl) h5) (zlv hv 29 rfl) rfl rfl rfl (Nat.le_of_ble_eq_true rfl) ⟨(Nat.le_of_ble_eq_true rfl), (Nat.le_of_ble_eq_true rfl)⟩ ⟨(Nat.le_of_ble_eq_true rfl), (Nat.le_of_ble_eq_true rfl)⟩ d_Tidings_add_33 ?_
  refine z_aload_n C d_Tidings_add_36 1 rfl rfl ?_
  refine gf_Tidings_30 C (zlv hv 24 rfl) rfl rfl d_Tidings_add_37 ?_
  refine z_iload C d_Tidings_add_40 0 rfl ?_
  refine z_iconst C d_Tidings_add_42 zki_m1 ?_
  obtain ⟨σ8, h7, hf⟩ := bd_s hf
  refine z_cVv C kl_Tidings_52 rfl (c_Row_put (zrow_v hv 31 rfl) h7) (zlv hv 31 rfl) rfl rfl rfl (Nat.le_of_ble_eq_true rfl) ⟨(Nat.le_of_ble_eq_true rfl), (Nat.le_of_ble_eq_true rfl)⟩ ⟨(Nat.le_of_ble_eq_true rfl), (Nat.le_of_ble_eq_true rfl)⟩ d_Tidings_add_43 ?_
  refine z_aload_n C d_Tidings_add_46 1 rfl rfl ?_
  refine gf_Tidings_33 C (zlv hv 24 rfl) rfl rfl d_Tidings_add_47 ?_
  refine z_iload C d_Tidings_add_50 0 rfl ?_
  refine z_iconst C d_Tidings_add_52 zki_m1 ?_
  obtain ⟨σ10, h9, hf⟩ := bd_s hf
  refine z_cVv C kl_Tidings_52 rfl (c_Row_put (zrow_v hv 33 rfl) h9) (zlv hv 33 rfl) rfl rfl rfl (Nat.le_of_ble_eq_true rfl) ⟨(Nat.le_of_ble_eq_true rfl), (Nat.le_of_ble_eq_true rfl)⟩ ⟨(Nat.le_of_ble_eq_true rfl), (Nat.le_of_ble_eq_true rfl)⟩ d_Tidings_add_53 ?_
  refine z_aload_n C d_Tidings_add_56 1 rfl rfl ?_
  refine gf_Tidings_36 C (zlv hv 24 rfl) rfl rfl d_Tidings_add_57 ?_
  refine z_iload C d_Tidings_add_60 0 rfl ?_
  refine z_iconst C d_Tidings_add_62 zki_m1 ?_
  obtain ⟨σ12, h11, hf⟩ := bd_s hf
  refine z_cVv C kl_Tidings_52 rfl (c_Row_put (zrow_v hv 35 rfl) h11) (zlv hv 35 rfl) rfl rfl rfl (Nat.le_of_ble_eq_true rfl) ⟨(Nat.le_of_ble_eq_true rfl), (Nat.le_of_ble_eq_true rfl)⟩ ⟨(Nat.le_of_ble_eq_true rfl), (Nat.le_of_ble_eq_true rfl)⟩ d_Tidings_add_63 ?_
  refine z_aload_n C d_Tidings_add_66 1 rfl rfl ?_
  refine gf_Tidings_39 C (zlv hv 24 rfl) rfl rfl d_Tidings_add_67 ?_
  refine z_iload C d_Tidings_add_70 0 rfl ?_
  refine z_iload_n C d_Tidings_add_72 2 rfl rfl ?_
  obtain ⟨r14, h13, hf⟩ := bd_s hf
  refine z_cSNi C kl_Tidings_56 (c_Waves_bit h13) rfl rfl (Nat.le_of_ble_eq_true rfl) ⟨(Nat.le_of_ble_eq_true rfl), (Nat.le_of_ble_eq_true rfl)⟩ ⟨(Nat.le_of_ble_eq_true rfl), (Nat.le_of_ble_eq_true rfl)⟩ d_Tidings_add_73 ?_
  obtain ⟨σ16, h15, hf⟩ := bd_s hf
  refine z_cVv C kl_Tidings_52 rfl (c_Row_put (zrow_v hv 37 rfl) h15) (zlv hv 37 rfl) rfl rfl rfl (Nat.le_of_ble_eq_true rfl) ⟨(Nat.le_of_ble_eq_true rfl), (Nat.le_of_ble_eq_true rfl)⟩ ⟨(Nat.le_of_ble_eq_true rfl), (Nat.le_of_ble_eq_true rfl)⟩ d_Tidings_add_76 ?_
  refine z_aload_n C d_Tidings_add_79 1 rfl rfl ?_
  refine gf_Tidings_42 C (zlv hv 24 rfl) rfl rfl d_Tidings_add_80 ?_
  refine z_iload C d_Tidings_add_83 0 rfl ?_
  refine z_iconst C d_Tidings_add_85 zki_0 ?_
  obtain ⟨σ18, h17, hf⟩ := bd_s hf
  refine z_cVv C kl_Tidings_52 rfl (c_Row_put (zrow_v hv 39 rfl) h17) (zlv hv 39 rfl) rfl rfl rfl (Nat.le_of_ble_eq_true rfl) ⟨(Nat.le_of_ble_eq_true rfl), (Nat.le_of_ble_eq_true rfl)⟩ ⟨(Nat.le_of_ble_eq_true rfl), (Nat.le_of_ble_eq_true rfl)⟩ d_Tidings_add_86 ?_
  refine z_aload_n C d_Tidings_add_89 1 rfl rfl ?_
  refine gf_Tidings_45 C (zlv hv 24 rfl) rfl rfl d_Tidings_add_90 ?_
  refine z_iload C d_Tidings_add_93 0 rfl ?_
  refine z_iconst C d_Tidings_add_95 zki_0 ?_
  obtain ⟨σ20, h19, hf⟩ := bd_s hf
  refine z_cVv C kl_Tidings_52 rfl (c_Row_put (zrow_v hv 41 rfl) h19) (zlv hv 41 rfl) rfl rfl rfl (Nat.le_of_ble_eq_true rfl) ⟨(Nat.le_of_ble_eq_true rfl), (Nat.le_of_ble_eq_true rfl)⟩ ⟨(Nat.le_of_ble_eq_true rfl), (Nat.le_of_ble_eq_true rfl)⟩ d_Tidings_add_96 ?_
  refine z_aload_n C d_Tidings_add_99 1 rfl rfl ?_
  refine z_iload C d_Tidings_add_100 0 rfl ?_
  refine z_iconst C d_Tidings_add_102 zki_1 ?_
  refine z_iadd C d_Tidings_add_103 ?_
  refine pf_Tidings_9 C (zlv hv 24 rfl) rfl (Nat.le_of_ble_eq_true rfl) rfl d_Tidings_add_104 ?_
  refine z_iload C d_Tidings_add_107 0 rfl ?_
  cases hf
  exact z_iret C rfl (Nat.le_of_ble_eq_true rfl) (Nat.le_of_ble_eq_true rfl) d_Tidings_add_109
abbrev rm_Tidings_isCorrected : Room := { frames := 1, cells := 0, slots := 0, locals := 21 }
theorem d_Tidings_isCorrected_0 : decode b_Tidings_isCorrected 0 = .ok (.aload_n 0, 1) := by decide +kernel
theorem d_Tidings_isCorrected_1 : decode b_Tidings_isCorrected 1 = .ok (.getfield 33, 3) := by decide +kernel
theorem d_Tidings_isCorrected_4 : decode b_Tidings_isCorrected 4 = .ok (.iload_n 1, 1) := by decide +kernel
theorem d_Tidings_isCorrected_5 : decode b_Tidings_isCorrected 5 = .ok (.invokevirtual 60, 3) := by decide +kernel
theorem d_Tidings_isCorrected_8 : decode b_Tidings_isCorrected 8 = .ok (.iconst (-1), 1) := by decide +kernel
theorem d_Tidings_isCorrected_9 : decode b_Tidings_isCorrected 9 = .ok (.if_icmp .eq 7, 3) := by decide +kernel
theorem d_Tidings_isCorrected_12 : decode b_Tidings_isCorrected 12 = .ok (.iconst 1, 1) := by decide +kernel
theorem d_Tidings_isCorrected_13 : decode b_Tidings_isCorrected 13 = .ok (.goto 4, 3) := by decide +kernel
theorem d_Tidings_isCorrected_16 : decode b_Tidings_isCorrected 16 = .ok (.iconst 0, 1) := by decide +kernel
theorem d_Tidings_isCorrected_17 : decode b_Tidings_isCorrected 17 = .ok (.ireturn, 1) := by decide +kernel
def F_Tidings_isCorrected (v : Nat) (a0 : Int32) (σ : zSt) : Option (Int32) :=
  (F_Row_get v 33 a0 σ).bind fun r2 => if r2 = (-1 : Int32) then some (0 : Int32) else some (1 : Int32)
set_option maxHeartbeats 4000000 in
set_option maxRecDepth 100000 in
theorem c_Tidings_isCorrected {l : Launch} {G : zLA} {v : Nat} (hv : zvl G v) {a0 : Int32} {σ : zSt} {r : Int32} (hf : F_Tidings_isCorrected v a0 σ = some r) : zM l G y_Tidings_isCorrected (zws y_Tidings_isCorrected b_Tidings_isCorrected 2 (some .boolean)) rm_Tidings_isCorrected [.ref (zad G v 24), .int a0] σ (some (.int r)) σ := by
  refine z_ofM (own := "VillageWaves$Tidings") (lv := [(0, .ref (zad G v 24)), (1, .int a0)]) (by decide +kernel) rfl rfl (Nat.le_of_ble_eq_true rfl) (fun p e s m args below meth c C => ?_)
  rw [F_Tidings_isCorrected] at hf
  refine z_aload_n C d_Tidings_isCorrected_0 0 rfl rfl ?_
  refine gf_Tidings_33 C (zlv hv 24 rfl) rfl rfl d_Tidings_isCorrected_1 ?_
  refine z_iload_n C d_Tidings_isCorrected_4 1 rfl rfl ?_
  obtain ⟨r2, h1, hf⟩ := bd_s hf
  refine z_cVi C kl_Tidings_60 rfl (c_Row_get (zrow_v hv 33 rfl) h1) (zlv hv 33 rfl) rfl rfl rfl (Nat.le_of_ble_eq_true rfl) ⟨(Nat.le_of_ble_eq_true rfl), (Nat.le_of_ble_eq_true rfl)⟩ ⟨(Nat.le_of_ble_eq_true rfl), (Nat.le_of_ble_eq_true rfl)⟩ d_Tidings_isCorrected_5 ?_
  refine z_iconst C d_Tidings_isCorrected_8 zki_m1 ?_
  refine z_icmp_eq (tgt := 16) C d_Tidings_isCorrected_9 rfl (fun h3 => ?_) (fun h3 => ?_)
  · have hf := iff_t hf h3
    refine z_iconst C d_Tidings_isCorrected_16 zki_0 ?_
    cases hf
    exact z_zret C rfl rfl (Nat.le_of_ble_eq_true rfl) (Nat.le_of_ble_eq_true rfl) d_Tidings_isCorrected_17
  · have hf := iff_f hf h3
    refine z_iconst C d_Tidings_isCorrected_12 zki_1 ?_
    refine z_goto (tgt := 17) C d_Tidings_isCorrected_13 rfl ?_
    cases hf
    exact z_zret C rfl rfl (Nat.le_of_ble_eq_true rfl) (Nat.le_of_ble_eq_true rfl) d_Tidings_isCorrected_17
abbrev rm_Tidings_correctedNumber : Room := { frames := 2, cells := 0, slots := 0, locals := 42 }
theorem d_Tidings_correctedNumber_0 : decode b_Tidings_correctedNumber 0 = .ok (.iconst 0, 1) := by decide +kernel
theorem d_Tidings_correctedNumber_1 : decode b_Tidings_correctedNumber 1 = .ok (.istore_n 1, 1) := by decide +kernel
theorem d_Tidings_correctedNumber_2 : decode b_Tidings_correctedNumber 2 = .ok (.iconst 0, 1) := by decide +kernel
theorem d_Tidings_correctedNumber_3 : decode b_Tidings_correctedNumber 3 = .ok (.istore_n 2, 1) := by decide +kernel
theorem d_Tidings_correctedNumber_4 : decode b_Tidings_correctedNumber 4 = .ok (.iload_n 2, 1) := by decide +kernel
theorem d_Tidings_correctedNumber_5 : decode b_Tidings_correctedNumber 5 = .ok (.aload_n 0, 1) := by decide +kernel
theorem d_Tidings_correctedNumber_6 : decode b_Tidings_correctedNumber 6 = .ok (.getfield 9, 3) := by decide +kernel
theorem d_Tidings_correctedNumber_9 : decode b_Tidings_correctedNumber 9 = .ok (.if_icmp .ge 20, 3) := by decide +kernel
theorem d_Tidings_correctedNumber_12 : decode b_Tidings_correctedNumber 12 = .ok (.aload_n 0, 1) := by decide +kernel
theorem d_Tidings_correctedNumber_13 : decode b_Tidings_correctedNumber 13 = .ok (.iload_n 2, 1) := by decide +kernel
theorem d_Tidings_correctedNumber_14 : decode b_Tidings_correctedNumber 14 = .ok (.invokevirtual 63, 3) := by decide +kernel
theorem d_Tidings_correctedNumber_17 : decode b_Tidings_correctedNumber 17 = .ok (.ifCond .eq 6, 3) := by decide +kernel
theorem d_Tidings_correctedNumber_20 : decode b_Tidings_correctedNumber 20 = .ok (.iinc 1 1, 3) := by decide +kernel
theorem d_Tidings_correctedNumber_23 : decode b_Tidings_correctedNumber 23 = .ok (.iinc 2 1, 3) := by decide +kernel
theorem d_Tidings_correctedNumber_26 : decode b_Tidings_correctedNumber 26 = .ok (.goto (-22), 3) := by decide +kernel
theorem d_Tidings_correctedNumber_29 : decode b_Tidings_correctedNumber 29 = .ok (.iload_n 1, 1) := by decide +kernel
theorem d_Tidings_correctedNumber_30 : decode b_Tidings_correctedNumber 30 = .ok (.ireturn, 1) := by decide +kernel
def L_Tidings_correctedNumber (v : Nat) (σ : zSt) : Nat → Nat → Int32 → Int32 → Option (Int32)
  | 0, _, _, _ => none
  | n + 1, 0, x1, x2 => if (σ.1 v 24 0) ≤ x2 then some x1 else ((F_Tidings_isCorrected v x2 σ).bind fun r2 => if r2 = 0 then L_Tidings_correctedNumber v σ n 0 x1 (x2 + (1 : Int32)) else L_Tidings_correctedNumber v σ n 0 (x1 + (1 : Int32)) (x2 + (1 : Int32)))
  | _ + 1, _, _, _ => none
theorem e_Tidings_correctedNumber_0 (v : Nat) (σ : zSt) (n : Nat) (x1 : Int32) (x2 : Int32) : L_Tidings_correctedNumber v σ (n + 1) 0 x1 x2 = (if (σ.1 v 24 0) ≤ x2 then some x1 else ((F_Tidings_isCorrected v x2 σ).bind fun r2 => if r2 = 0 then L_Tidings_correctedNumber v σ n 0 x1 (x2 + (1 : Int32)) else L_Tidings_correctedNumber v σ n 0 (x1 + (1 : Int32)) (x2 + (1 : Int32)))) := rfl
set_option maxHeartbeats 4000000 in
set_option maxRecDepth 100000 in
theorem w_Tidings_correctedNumber {l : Launch} {G : zLA} {p : Program} {e : Env} {s : State} {m : MethodId} {args : Array Value} {below : List Frame} {meth : Method} {c : Code} (C : zCx G p s m args meth c "VillageWaves$Tidings" b_Tidings_correctedNumber 3 (some .int)) {v : Nat} (hv : zvl G v) {σ : zSt} {r : Int32} : ∀ n : Nat, (∀ (x1 : Int32) (x2 : Int32), L_Tidings_correctedNumber v σ n 0 x1 x2 = some r → zWV G p l e rm_Tidings_correctedNumber s m args below meth c 3 0 0 (zQ G below args s rm_Tidings_correctedNumber (some (.int r)) σ) 4 [(0, .ref (zad G v 24)), (1, .int x1), (2, .int x2)] [] σ) := by
  intro n
  induction n with
  | zero => exact fun _ _ hf => (by cases hf)
  | succ n ih =>
    refine ?_
    · intro x1 x2 hf
      rw [e_Tidings_correctedNumber_0] at hf
      refine z_iload_n C d_Tidings_correctedNumber_4 2 rfl rfl ?_
      refine z_aload_n C d_Tidings_correctedNumber_5 0 rfl rfl ?_
      refine gf_Tidings_9 C (zlv hv 24 rfl) rfl rfl d_Tidings_correctedNumber_6 ?_
      refine z_icmp_ge (tgt := 29) C d_Tidings_correctedNumber_9 rfl (fun h4 => ?_) (fun h4 => ?_)
      · have hf := iff_t hf h4
        refine z_iload_n C d_Tidings_correctedNumber_29 1 rfl rfl ?_
        cases hf
        exact z_iret C rfl (Nat.le_of_ble_eq_true rfl) (Nat.le_of_ble_eq_true rfl) d_Tidings_correctedNumber_30
      · have hf := iff_f hf h4
        refine z_aload_n C d_Tidings_correctedNumber_12 0 rfl rfl ?_
        refine z_iload_n C d_Tidings_correctedNumber_13 2 rfl rfl ?_
        obtain ⟨r2, h1, hf⟩ := bd_s hf
        refine z_cVi C kl_Tidings_63 rfl (c_Tidings_isCorrected hv h1) (zlv hv 24 rfl) rfl rfl rfl (Nat.le_of_ble_eq_true rfl) ⟨(Nat.le_of_ble_eq_true rfl), (Nat.le_of_ble_eq_true rfl)⟩ ⟨(Nat.le_of_ble_eq_true rfl), (Nat.le_of_ble_eq_true rfl)⟩ d_Tidings_correctedNumber_14 ?_
        refine z_if_eq (tgt := 23) C d_Tidings_correctedNumber_17 rfl (fun h3 => ?_) (fun h3 => ?_)
        · have hf := iff_t hf h3
          refine z_iinc C d_Tidings_correctedNumber_23 2 rfl zki_1 (by decide) ?_
          refine z_goto (tgt := 4) C d_Tidings_correctedNumber_26 rfl ?_
          exact z_sub [1, 2, 0] rfl (ih _ _ hf)
        · have hf := iff_f hf h3
          refine z_iinc C d_Tidings_correctedNumber_20 1 rfl zki_1 (by decide) ?_
          refine z_iinc C d_Tidings_correctedNumber_23 2 rfl zki_1 (by decide) ?_
          refine z_goto (tgt := 4) C d_Tidings_correctedNumber_26 rfl ?_
          exact z_sub [2, 1, 0] rfl (ih _ _ hf)
def F_Tidings_correctedNumber (v : Nat) (σ : zSt) : Option (Int32) :=
  L_Tidings_correctedNumber v σ zK 0 (0 : Int32) (0 : Int32)
set_option maxHeartbeats 4000000 in
set_option maxRecDepth 100000 in
theorem c_Tidings_correctedNumber {l : Launch} {G : zLA} {v : Nat} (hv : zvl G v) {σ : zSt} {r : Int32} (hf : F_Tidings_correctedNumber v σ = some r) : zM l G y_Tidings_correctedNumber (zws y_Tidings_correctedNumber b_Tidings_correctedNumber 3 (some .int)) rm_Tidings_correctedNumber [.ref (zad G v 24)] σ (some (.int r)) σ := by
  refine z_ofM (own := "VillageWaves$Tidings") (lv := [(0, .ref (zad G v 24))]) (by decide +kernel) rfl rfl (Nat.le_of_ble_eq_true rfl) (fun p e s m args below meth c C => ?_)
  rw [F_Tidings_correctedNumber] at hf
  refine z_iconst C d_Tidings_correctedNumber_0 zki_0 ?_
  refine z_istore_n C d_Tidings_correctedNumber_1 rfl (by decide) ?_
  refine z_iconst C d_Tidings_correctedNumber_2 zki_0 ?_
  refine z_istore_n C d_Tidings_correctedNumber_3 rfl (by decide) ?_
  exact z_sub [2, 1, 0] rfl ((w_Tidings_correctedNumber C hv zK) _ _ hf)
abbrev rm_Tidings_isHeardOf : Room := { frames := 1, cells := 0, slots := 0, locals := 21 }
theorem d_Tidings_isHeardOf_0 : decode b_Tidings_isHeardOf 0 = .ok (.aload_n 0, 1) := by decide +kernel
theorem d_Tidings_isHeardOf_1 : decode b_Tidings_isHeardOf 1 = .ok (.getfield 39, 3) := by decide +kernel
theorem d_Tidings_isHeardOf_4 : decode b_Tidings_isHeardOf 4 = .ok (.iload_n 1, 1) := by decide +kernel
theorem d_Tidings_isHeardOf_5 : decode b_Tidings_isHeardOf 5 = .ok (.invokevirtual 60, 3) := by decide +kernel
theorem d_Tidings_isHeardOf_8 : decode b_Tidings_isHeardOf 8 = .ok (.aload_n 0, 1) := by decide +kernel
theorem d_Tidings_isHeardOf_9 : decode b_Tidings_isHeardOf 9 = .ok (.getfield 42, 3) := by decide +kernel
theorem d_Tidings_isHeardOf_12 : decode b_Tidings_isHeardOf 12 = .ok (.iload_n 1, 1) := by decide +kernel
theorem d_Tidings_isHeardOf_13 : decode b_Tidings_isHeardOf 13 = .ok (.invokevirtual 60, 3) := by decide +kernel
theorem d_Tidings_isHeardOf_16 : decode b_Tidings_isHeardOf 16 = .ok (.ior, 1) := by decide +kernel
theorem d_Tidings_isHeardOf_17 : decode b_Tidings_isHeardOf 17 = .ok (.iload_n 2, 1) := by decide +kernel
theorem d_Tidings_isHeardOf_18 : decode b_Tidings_isHeardOf 18 = .ok (.invokestatic 67, 3) := by decide +kernel
theorem d_Tidings_isHeardOf_21 : decode b_Tidings_isHeardOf 21 = .ok (.ireturn, 1) := by decide +kernel
def F_Tidings_isHeardOf (v : Nat) (a0 : Int32) (a1 : Int32) (σ : zSt) : Option (Int32) :=
  (F_Row_get v 37 a0 σ).bind fun r2 => (F_Row_get v 39 a0 σ).bind fun r4 => (F_Waves_contains (r2 ||| r4) a1 σ).bind fun r6 => if (r6 = 0 ∨ r6 = 1) then some r6 else none
set_option maxHeartbeats 4000000 in
set_option maxRecDepth 100000 in
theorem c_Tidings_isHeardOf {l : Launch} {G : zLA} {v : Nat} (hv : zvl G v) {a0 : Int32} {a1 : Int32} {σ : zSt} {r : Int32} (hf : F_Tidings_isHeardOf v a0 a1 σ = some r) : zM l G y_Tidings_isHeardOf (zws y_Tidings_isHeardOf b_Tidings_isHeardOf 3 (some .boolean)) rm_Tidings_isHeardOf [.ref (zad G v 24), .int a0, .int a1] σ (some (.int r)) σ := by
  refine z_ofM (own := "VillageWaves$Tidings") (lv := [(0, .ref (zad G v 24)), (1, .int a0), (2, .int a1)]) (by decide +kernel) rfl rfl (Nat.le_of_ble_eq_true rfl) (fun p e s m args below meth c C => ?_)
  rw [F_Tidings_isHeardOf] at hf
  refine z_aload_n C d_Tidings_isHeardOf_0 0 rfl rfl ?_
  refine gf_Tidings_39 C (zlv hv 24 rfl) rfl rfl d_Tidings_isHeardOf_1 ?_
  refine z_iload_n C d_Tidings_isHeardOf_4 1 rfl rfl ?_
  obtain ⟨r2, h1, hf⟩ := bd_s hf
  refine z_cVi C kl_Tidings_60 rfl (c_Row_get (zrow_v hv 37 rfl) h1) (zlv hv 37 rfl) rfl rfl rfl (Nat.le_of_ble_eq_true rfl) ⟨(Nat.le_of_ble_eq_true rfl), (Nat.le_of_ble_eq_true rfl)⟩ ⟨(Nat.le_of_ble_eq_true rfl), (Nat.le_of_ble_eq_true rfl)⟩ d_Tidings_isHeardOf_5 ?_
  refine z_aload_n C d_Tidings_isHeardOf_8 0 rfl rfl ?_
  refine gf_Tidings_42 C (zlv hv 24 rfl) rfl rfl d_Tidings_isHeardOf_9 ?_
  refine z_iload_n C d_Tidings_isHeardOf_12 1 rfl rfl ?_
  obtain ⟨r4, h3, hf⟩ := bd_s hf
  refine z_cVi C kl_Tidings_60 rfl (c_Row_get (zrow_v hv 39 rfl) h3) (zlv hv 39 rfl) rfl rfl rfl (Nat.le_of_ble_eq_true rfl) ⟨(Nat.le_of_ble_eq_true rfl), (Nat.le_of_ble_eq_true rfl)⟩ ⟨(Nat.le_of_ble_eq_true rfl), (Nat.le_of_ble_eq_true rfl)⟩ d_Tidings_isHeardOf_13 ?_
  refine z_ior C d_Tidings_isHeardOf_16 ?_
  refine z_iload_n C d_Tidings_isHeardOf_17 2 rfl rfl ?_
  obtain ⟨r6, h5, hf⟩ := bd_s hf
  refine z_cSNi C kl_Tidings_67 (c_Waves_contains h5) rfl rfl (Nat.le_of_ble_eq_true rfl) ⟨(Nat.le_of_ble_eq_true rfl), (Nat.le_of_ble_eq_true rfl)⟩ ⟨(Nat.le_of_ble_eq_true rfl), (Nat.le_of_ble_eq_true rfl)⟩ d_Tidings_isHeardOf_18 ?_
  obtain ⟨h7, hf⟩ := iff_g hf
  cases hf
  exact z_zret C rfl (znb h7) (Nat.le_of_ble_eq_true rfl) (Nat.le_of_ble_eq_true rfl) d_Tidings_isHeardOf_21
abbrev rm_Tidings_uncorrectedHouses : Room := { frames := 2, cells := 0, slots := 0, locals := 42 }
theorem d_Tidings_uncorrectedHouses_0 : decode b_Tidings_uncorrectedHouses 0 = .ok (.aload_n 0, 1) := by decide +kernel
theorem d_Tidings_uncorrectedHouses_1 : decode b_Tidings_uncorrectedHouses 1 = .ok (.iload_n 1, 1) := by decide +kernel
theorem d_Tidings_uncorrectedHouses_2 : decode b_Tidings_uncorrectedHouses 2 = .ok (.invokevirtual 63, 3) := by decide +kernel
theorem d_Tidings_uncorrectedHouses_5 : decode b_Tidings_uncorrectedHouses 5 = .ok (.ifCond .eq 25, 3) := by decide +kernel
theorem d_Tidings_uncorrectedHouses_8 : decode b_Tidings_uncorrectedHouses 8 = .ok (.aload_n 0, 1) := by decide +kernel
theorem d_Tidings_uncorrectedHouses_9 : decode b_Tidings_uncorrectedHouses 9 = .ok (.getfield 39, 3) := by decide +kernel
theorem d_Tidings_uncorrectedHouses_12 : decode b_Tidings_uncorrectedHouses 12 = .ok (.iload_n 1, 1) := by decide +kernel
theorem d_Tidings_uncorrectedHouses_13 : decode b_Tidings_uncorrectedHouses 13 = .ok (.invokevirtual 60, 3) := by decide +kernel
theorem d_Tidings_uncorrectedHouses_16 : decode b_Tidings_uncorrectedHouses 16 = .ok (.aload_n 0, 1) := by decide +kernel
theorem d_Tidings_uncorrectedHouses_17 : decode b_Tidings_uncorrectedHouses 17 = .ok (.getfield 42, 3) := by decide +kernel
theorem d_Tidings_uncorrectedHouses_20 : decode b_Tidings_uncorrectedHouses 20 = .ok (.iload_n 1, 1) := by decide +kernel
theorem d_Tidings_uncorrectedHouses_21 : decode b_Tidings_uncorrectedHouses 21 = .ok (.invokevirtual 60, 3) := by decide +kernel
theorem d_Tidings_uncorrectedHouses_24 : decode b_Tidings_uncorrectedHouses 24 = .ok (.iconst (-1), 1) := by decide +kernel
theorem d_Tidings_uncorrectedHouses_25 : decode b_Tidings_uncorrectedHouses 25 = .ok (.ixor, 1) := by decide +kernel
theorem d_Tidings_uncorrectedHouses_26 : decode b_Tidings_uncorrectedHouses 26 = .ok (.iand, 1) := by decide +kernel
theorem d_Tidings_uncorrectedHouses_27 : decode b_Tidings_uncorrectedHouses 27 = .ok (.goto 4, 3) := by decide +kernel
theorem d_Tidings_uncorrectedHouses_30 : decode b_Tidings_uncorrectedHouses 30 = .ok (.iconst 0, 1) := by decide +kernel
theorem d_Tidings_uncorrectedHouses_31 : decode b_Tidings_uncorrectedHouses 31 = .ok (.ireturn, 1) := by decide +kernel
def F_Tidings_uncorrectedHouses (v : Nat) (a0 : Int32) (σ : zSt) : Option (Int32) :=
  (F_Tidings_isCorrected v a0 σ).bind fun r2 => if r2 = 0 then some (0 : Int32) else ((F_Row_get v 37 a0 σ).bind fun r4 => (F_Row_get v 39 a0 σ).bind fun r6 => some (r4 &&& (r6 ^^^ (-1 : Int32))))
set_option maxHeartbeats 4000000 in
set_option maxRecDepth 100000 in
theorem c_Tidings_uncorrectedHouses {l : Launch} {G : zLA} {v : Nat} (hv : zvl G v) {a0 : Int32} {σ : zSt} {r : Int32} (hf : F_Tidings_uncorrectedHouses v a0 σ = some r) : zM l G y_Tidings_uncorrectedHouses (zws y_Tidings_uncorrectedHouses b_Tidings_uncorrectedHouses 2 (some .int)) rm_Tidings_uncorrectedHouses [.ref (zad G v 24), .int a0] σ (some (.int r)) σ := by
  refine z_ofM (own := "VillageWaves$Tidings") (lv := [(0, .ref (zad G v 24)), (1, .int a0)]) (by decide +kernel) rfl rfl (Nat.le_of_ble_eq_true rfl) (fun p e s m args below meth c C => ?_)
  rw [F_Tidings_uncorrectedHouses] at hf
  refine z_aload_n C d_Tidings_uncorrectedHouses_0 0 rfl rfl ?_
  refine z_iload_n C d_Tidings_uncorrectedHouses_1 1 rfl rfl ?_
  obtain ⟨r2, h1, hf⟩ := bd_s hf
  refine z_cVi C kl_Tidings_63 rfl (c_Tidings_isCorrected hv h1) (zlv hv 24 rfl) rfl rfl rfl (Nat.le_of_ble_eq_true rfl) ⟨(Nat.le_of_ble_eq_true rfl), (Nat.le_of_ble_eq_true rfl)⟩ ⟨(Nat.le_of_ble_eq_true rfl), (Nat.le_of_ble_eq_true rfl)⟩ d_Tidings_uncorrectedHouses_2 ?_
  refine z_if_eq (tgt := 30) C d_Tidings_uncorrectedHouses_5 rfl (fun h7 => ?_) (fun h7 => ?_)
  · have hf := iff_t hf h7
    refine z_iconst C d_Tidings_uncorrectedHouses_30 zki_0 ?_
    cases hf
    exact z_iret C rfl (Nat.le_of_ble_eq_true rfl) (Nat.le_of_ble_eq_true rfl) d_Tidings_uncorrectedHouses_31
  · have hf := iff_f hf h7
    refine z_aload_n C d_Tidings_uncorrectedHouses_8 0 rfl rfl ?_
    refine gf_Tidings_39 C (zlv hv 24 rfl) rfl rfl d_Tidings_uncorrectedHouses_9 ?_
    refine z_iload_n C d_Tidings_uncorrectedHouses_12 1 rfl rfl ?_
    obtain ⟨r4, h3, hf⟩ := bd_s hf
    refine z_cVi C kl_Tidings_60 rfl (c_Row_get (zrow_v hv 37 rfl) h3) (zlv hv 37 rfl) rfl rfl rfl (Nat.le_of_ble_eq_true rfl) ⟨(Nat.le_of_ble_eq_true rfl), (Nat.le_of_ble_eq_true rfl)⟩ ⟨(Nat.le_of_ble_eq_true rfl), (Nat.le_of_ble_eq_true rfl)⟩ d_Tidings_uncorrectedHouses_13 ?_
    refine z_aload_n C d_Tidings_uncorrectedHouses_16 0 rfl rfl ?_
    refine gf_Tidings_42 C (zlv hv 24 rfl) rfl rfl d_Tidings_uncorrectedHouses_17 ?_
    refine z_iload_n C d_Tidings_uncorrectedHouses_20 1 rfl rfl ?_
    obtain ⟨r6, h5, hf⟩ := bd_s hf
    refine z_cVi C kl_Tidings_60 rfl (c_Row_get (zrow_v hv 39 rfl) h5) (zlv hv 39 rfl) rfl rfl rfl (Nat.le_of_ble_eq_true rfl) ⟨(Nat.le_of_ble_eq_true rfl), (Nat.le_of_ble_eq_true rfl)⟩ ⟨(Nat.le_of_ble_eq_true rfl), (Nat.le_of_ble_eq_true rfl)⟩ d_Tidings_uncorrectedHouses_21 ?_
    refine z_iconst C d_Tidings_uncorrectedHouses_24 zki_m1 ?_
    refine z_ixor C d_Tidings_uncorrectedHouses_25 ?_
    refine z_iand C d_Tidings_uncorrectedHouses_26 ?_
    refine z_goto (tgt := 31) C d_Tidings_uncorrectedHouses_27 rfl ?_
    cases hf
    exact z_iret C rfl (Nat.le_of_ble_eq_true rfl) (Nat.le_of_ble_eq_true rfl) d_Tidings_uncorrectedHouses_31
abbrev rm_Tidings_newsKnownAt : Room := { frames := 1, cells := 0, slots := 0, locals := 21 }
theorem d_Tidings_newsKnownAt_0 : decode b_Tidings_newsKnownAt 0 = .ok (.iconst 0, 1) := by decide +kernel
theorem d_Tidings_newsKnownAt_1 : decode b_Tidings_newsKnownAt 1 = .ok (.istore_n 2, 1) := by decide +kernel
theorem d_Tidings_newsKnownAt_2 : decode b_Tidings_newsKnownAt 2 = .ok (.iconst 0, 1) := by decide +kernel
theorem d_Tidings_newsKnownAt_3 : decode b_Tidings_newsKnownAt 3 = .ok (.istore_n 3, 1) := by decide +kernel
theorem d_Tidings_newsKnownAt_4 : decode b_Tidings_newsKnownAt 4 = .ok (.iload_n 3, 1) := by decide +kernel
theorem d_Tidings_newsKnownAt_5 : decode b_Tidings_newsKnownAt 5 = .ok (.aload_n 0, 1) := by decide +kernel
theorem d_Tidings_newsKnownAt_6 : decode b_Tidings_newsKnownAt 6 = .ok (.getfield 9, 3) := by decide +kernel
theorem d_Tidings_newsKnownAt_9 : decode b_Tidings_newsKnownAt 9 = .ok (.if_icmp .ge 31, 3) := by decide +kernel
theorem d_Tidings_newsKnownAt_12 : decode b_Tidings_newsKnownAt 12 = .ok (.aload_n 0, 1) := by decide +kernel
theorem d_Tidings_newsKnownAt_13 : decode b_Tidings_newsKnownAt 13 = .ok (.getfield 39, 3) := by decide +kernel
theorem d_Tidings_newsKnownAt_16 : decode b_Tidings_newsKnownAt 16 = .ok (.iload_n 3, 1) := by decide +kernel
theorem d_Tidings_newsKnownAt_17 : decode b_Tidings_newsKnownAt 17 = .ok (.invokevirtual 60, 3) := by decide +kernel
theorem d_Tidings_newsKnownAt_20 : decode b_Tidings_newsKnownAt 20 = .ok (.iload_n 1, 1) := by decide +kernel
theorem d_Tidings_newsKnownAt_21 : decode b_Tidings_newsKnownAt 21 = .ok (.invokestatic 67, 3) := by decide +kernel
theorem d_Tidings_newsKnownAt_24 : decode b_Tidings_newsKnownAt 24 = .ok (.ifCond .eq 10, 3) := by decide +kernel
theorem d_Tidings_newsKnownAt_27 : decode b_Tidings_newsKnownAt 27 = .ok (.iload_n 2, 1) := by decide +kernel
theorem d_Tidings_newsKnownAt_28 : decode b_Tidings_newsKnownAt 28 = .ok (.iload_n 3, 1) := by decide +kernel
theorem d_Tidings_newsKnownAt_29 : decode b_Tidings_newsKnownAt 29 = .ok (.invokestatic 56, 3) := by decide +kernel
theorem d_Tidings_newsKnownAt_32 : decode b_Tidings_newsKnownAt 32 = .ok (.ior, 1) := by decide +kernel
theorem d_Tidings_newsKnownAt_33 : decode b_Tidings_newsKnownAt 33 = .ok (.istore_n 2, 1) := by decide +kernel
theorem d_Tidings_newsKnownAt_34 : decode b_Tidings_newsKnownAt 34 = .ok (.iinc 3 1, 3) := by decide +kernel
theorem d_Tidings_newsKnownAt_37 : decode b_Tidings_newsKnownAt 37 = .ok (.goto (-33), 3) := by decide +kernel
theorem d_Tidings_newsKnownAt_40 : decode b_Tidings_newsKnownAt 40 = .ok (.iload_n 2, 1) := by decide +kernel
theorem d_Tidings_newsKnownAt_41 : decode b_Tidings_newsKnownAt 41 = .ok (.ireturn, 1) := by decide +kernel
def L_Tidings_newsKnownAt (v : Nat) (σ : zSt) : Nat → Nat → Int32 → Int32 → Int32 → Option (Int32)
  | 0, _, _, _, _ => none
  | n + 1, 0, x1, x2, x3 => if (σ.1 v 24 0) ≤ x3 then some x2 else ((F_Row_get v 37 x3 σ).bind fun r2 => (F_Waves_contains r2 x1 σ).bind fun r4 => if r4 = 0 then L_Tidings_newsKnownAt v σ n 0 x1 x2 (x3 + (1 : Int32)) else ((F_Waves_bit x3 σ).bind fun r6 => L_Tidings_newsKnownAt v σ n 0 x1 (x2 ||| r6) (x3 + (1 : Int32))))
  | _ + 1, _, _, _, _ => none
theorem e_Tidings_newsKnownAt_0 (v : Nat) (σ : zSt) (n : Nat) (x1 : Int32) (x2 : Int32) (x3 : Int32) : L_Tidings_newsKnownAt v σ (n + 1) 0 x1 x2 x3 = (if (σ.1 v 24 0) ≤ x3 then some x2 else ((F_Row_get v 37 x3 σ).bind fun r2 => (F_Waves_contains r2 x1 σ).bind fun r4 => if r4 = 0 then L_Tidings_newsKnownAt v σ n 0 x1 x2 (x3 + (1 : Int32)) else ((F_Waves_bit x3 σ).bind fun r6 => L_Tidings_newsKnownAt v σ n 0 x1 (x2 ||| r6) (x3 + (1 : Int32))))) := rfl
set_option maxHeartbeats 4000000 in
set_option maxRecDepth 100000 in
theorem w_Tidings_newsKnownAt {l : Launch} {G : zLA} {p : Program} {e : Env} {s : State} {m : MethodId} {args : Array Value} {below : List Frame} {meth : Method} {c : Code} (C : zCx G p s m args meth c "VillageWaves$Tidings" b_Tidings_newsKnownAt 4 (some .int)) {v : Nat} (hv : zvl G v) {σ : zSt} {r : Int32} : ∀ n : Nat, (∀ (x1 : Int32) (x2 : Int32) (x3 : Int32), L_Tidings_newsKnownAt v σ n 0 x1 x2 x3 = some r → zWV G p l e rm_Tidings_newsKnownAt s m args below meth c 4 0 0 (zQ G below args s rm_Tidings_newsKnownAt (some (.int r)) σ) 4 [(0, .ref (zad G v 24)), (1, .int x1), (2, .int x2), (3, .int x3)] [] σ) := by
  intro n
  induction n with
  | zero => exact fun _ _ _ hf => (by cases hf)
  | succ n ih =>
    refine ?_
    · intro x1 x2 x3 hf
      rw [e_Tidings_newsKnownAt_0] at hf
      refine z_iload_n C d_Tidings_newsKnownAt_4 3 rfl rfl ?_
      refine z_aload_n C d_Tidings_newsKnownAt_5 0 rfl rfl ?_
      refine gf_Tidings_9 C (zlv hv 24 rfl) rfl rfl d_Tidings_newsKnownAt_6 ?_
      refine z_icmp_ge (tgt := 40) C d_Tidings_newsKnownAt_9 rfl (fun h8 => ?_) (fun h8 => ?_)
      · have hf := iff_t hf h8
        refine z_iload_n C d_Tidings_newsKnownAt_40 2 rfl rfl ?_
        cases hf
        exact z_iret C rfl (Nat.le_of_ble_eq_true rfl) (Nat.le_of_ble_eq_true rfl) d_Tidings_newsKnownAt_41
      · have hf := iff_f hf h8
        refine z_aload_n C d_Tidings_newsKnownAt_12 0 rfl rfl ?_
        refine gf_Tidings_39 C (zlv hv 24 rfl) rfl rfl d_Tidings_newsKnownAt_13 ?_
        refine z_iload_n C d_Tidings_newsKnownAt_16 3 rfl rfl ?_
        obtain ⟨r2, h1, hf⟩ := bd_s hf
        refine z_cVi C kl_Tidings_60 rfl (c_Row_get (zrow_v hv 37 rfl) h1) (zlv hv 37 rfl) rfl rfl rfl (Nat.le_of_ble_eq_true rfl) ⟨(Nat.le_of_ble_eq_true rfl), (Nat.le_of_ble_eq_true rfl)⟩ ⟨(Nat.le_of_ble_eq_true rfl), (Nat.le_of_ble_eq_true rfl)⟩ d_Tidings_newsKnownAt_17 ?_
        refine z_iload_n C d_Tidings_newsKnownAt_20 1 rfl rfl ?_
        obtain ⟨r4, h3, hf⟩ := bd_s hf
        refine z_cSNi C kl_Tidings_67 (c_Waves_contains h3) rfl rfl (Nat.le_of_ble_eq_true rfl) ⟨(Nat.le_of_ble_eq_true rfl), (Nat.le_of_ble_eq_true rfl)⟩ ⟨(Nat.le_of_ble_eq_true rfl), (Nat.le_of_ble_eq_true rfl)⟩ d_Tidings_newsKnownAt_21 ?_
        refine z_if_eq (tgt := 34) C d_Tidings_newsKnownAt_24 rfl (fun h7 => ?_) (fun h7 => ?_)
        · have hf := iff_t hf h7
          refine z_iinc C d_Tidings_newsKnownAt_34 3 rfl zki_1 (by decide) ?_
          refine z_goto (tgt := 4) C d_Tidings_newsKnownAt_37 rfl ?_
          exact z_sub [1, 2, 3, 0] rfl (ih _ _ _ hf)
        · have hf := iff_f hf h7
          refine z_iload_n C d_Tidings_newsKnownAt_27 2 rfl rfl ?_
          refine z_iload_n C d_Tidings_newsKnownAt_28 3 rfl rfl ?_
          obtain ⟨r6, h5, hf⟩ := bd_s hf
          refine z_cSNi C kl_Tidings_56 (c_Waves_bit h5) rfl rfl (Nat.le_of_ble_eq_true rfl) ⟨(Nat.le_of_ble_eq_true rfl), (Nat.le_of_ble_eq_true rfl)⟩ ⟨(Nat.le_of_ble_eq_true rfl), (Nat.le_of_ble_eq_true rfl)⟩ d_Tidings_newsKnownAt_29 ?_
          refine z_ior C d_Tidings_newsKnownAt_32 ?_
          refine z_istore_n C d_Tidings_newsKnownAt_33 rfl (by decide) ?_
          refine z_iinc C d_Tidings_newsKnownAt_34 3 rfl zki_1 (by decide) ?_
          refine z_goto (tgt := 4) C d_Tidings_newsKnownAt_37 rfl ?_
          exact z_sub [2, 3, 1, 0] rfl (ih _ _ _ hf)
def F_Tidings_newsKnownAt (v : Nat) (a0 : Int32) (σ : zSt) : Option (Int32) :=
  L_Tidings_newsKnownAt v σ zK 0 a0 (0 : Int32) (0 : Int32)
set_option maxHeartbeats 4000000 in
set_option maxRecDepth 100000 in
theorem c_Tidings_newsKnownAt {l : Launch} {G : zLA} {v : Nat} (hv : zvl G v) {a0 : Int32} {σ : zSt} {r : Int32} (hf : F_Tidings_newsKnownAt v a0 σ = some r) : zM l G y_Tidings_newsKnownAt (zws y_Tidings_newsKnownAt b_Tidings_newsKnownAt 4 (some .int)) rm_Tidings_newsKnownAt [.ref (zad G v 24), .int a0] σ (some (.int r)) σ := by
  refine z_ofM (own := "VillageWaves$Tidings") (lv := [(0, .ref (zad G v 24)), (1, .int a0)]) (by decide +kernel) rfl rfl (Nat.le_of_ble_eq_true rfl) (fun p e s m args below meth c C => ?_)
  rw [F_Tidings_newsKnownAt] at hf
  refine z_iconst C d_Tidings_newsKnownAt_0 zki_0 ?_
  refine z_istore_n C d_Tidings_newsKnownAt_1 rfl (by decide) ?_
  refine z_iconst C d_Tidings_newsKnownAt_2 zki_0 ?_
  refine z_istore_n C d_Tidings_newsKnownAt_3 rfl (by decide) ?_
  exact z_sub [2, 3, 1, 0] rfl ((w_Tidings_newsKnownAt C hv zK) _ _ _ hf)
abbrev rm_Tidings_correctionsKnownAt : Room := { frames := 1, cells := 0, slots := 0, locals := 21 }
theorem d_Tidings_correctionsKnownAt_0 : decode b_Tidings_correctionsKnownAt 0 = .ok (.iconst 0, 1) := by decide +kernel
theorem d_Tidings_correctionsKnownAt_1 : decode b_Tidings_correctionsKnownAt 1 = .ok (.istore_n 2, 1) := by decide +kernel
theorem d_Tidings_correctionsKnownAt_2 : decode b_Tidings_correctionsKnownAt 2 = .ok (.iconst 0, 1) := by decide +kernel
theorem d_Tidings_correctionsKnownAt_3 : decode b_Tidings_correctionsKnownAt 3 = .ok (.istore_n 3, 1) := by decide +kernel
theorem d_Tidings_correctionsKnownAt_4 : decode b_Tidings_correctionsKnownAt 4 = .ok (.iload_n 3, 1) := by decide +kernel
theorem d_Tidings_correctionsKnownAt_5 : decode b_Tidings_correctionsKnownAt 5 = .ok (.aload_n 0, 1) := by decide +kernel
theorem d_Tidings_correctionsKnownAt_6 : decode b_Tidings_correctionsKnownAt 6 = .ok (.getfield 9, 3) := by decide +kernel
theorem d_Tidings_correctionsKnownAt_9 : decode b_Tidings_correctionsKnownAt 9 = .ok (.if_icmp .ge 31, 3) := by decide +kernel
theorem d_Tidings_correctionsKnownAt_12 : decode b_Tidings_correctionsKnownAt 12 = .ok (.aload_n 0, 1) := by decide +kernel
theorem d_Tidings_correctionsKnownAt_13 : decode b_Tidings_correctionsKnownAt 13 = .ok (.getfield 42, 3) := by decide +kernel
theorem d_Tidings_correctionsKnownAt_16 : decode b_Tidings_correctionsKnownAt 16 = .ok (.iload_n 3, 1) := by decide +kernel
theorem d_Tidings_correctionsKnownAt_17 : decode b_Tidings_correctionsKnownAt 17 = .ok (.invokevirtual 60, 3) := by decide +kernel
theorem d_Tidings_correctionsKnownAt_20 : decode b_Tidings_correctionsKnownAt 20 = .ok (.iload_n 1, 1) := by decide +kernel
theorem d_Tidings_correctionsKnownAt_21 : decode b_Tidings_correctionsKnownAt 21 = .ok (.invokestatic 67, 3) := by decide +kernel
theorem d_Tidings_correctionsKnownAt_24 : decode b_Tidings_correctionsKnownAt 24 = .ok (.ifCond .eq 10, 3) := by decide +kernel
theorem d_Tidings_correctionsKnownAt_27 : decode b_Tidings_correctionsKnownAt 27 = .ok (.iload_n 2, 1) := by decide +kernel
theorem d_Tidings_correctionsKnownAt_28 : decode b_Tidings_correctionsKnownAt 28 = .ok (.iload_n 3, 1) := by decide +kernel
theorem d_Tidings_correctionsKnownAt_29 : decode b_Tidings_correctionsKnownAt 29 = .ok (.invokestatic 56, 3) := by decide +kernel
theorem d_Tidings_correctionsKnownAt_32 : decode b_Tidings_correctionsKnownAt 32 = .ok (.ior, 1) := by decide +kernel
theorem d_Tidings_correctionsKnownAt_33 : decode b_Tidings_correctionsKnownAt 33 = .ok (.istore_n 2, 1) := by decide +kernel
theorem d_Tidings_correctionsKnownAt_34 : decode b_Tidings_correctionsKnownAt 34 = .ok (.iinc 3 1, 3) := by decide +kernel
theorem d_Tidings_correctionsKnownAt_37 : decode b_Tidings_correctionsKnownAt 37 = .ok (.goto (-33), 3) := by decide +kernel
theorem d_Tidings_correctionsKnownAt_40 : decode b_Tidings_correctionsKnownAt 40 = .ok (.iload_n 2, 1) := by decide +kernel
theorem d_Tidings_correctionsKnownAt_41 : decode b_Tidings_correctionsKnownAt 41 = .ok (.ireturn, 1) := by decide +kernel
def L_Tidings_correctionsKnownAt (v : Nat) (σ : zSt) : Nat → Nat → Int32 → Int32 → Int32 → Option (Int32)
  | 0, _, _, _, _ => none
  | n + 1, 0, x1, x2, x3 => if (σ.1 v 24 0) ≤ x3 then some x2 else ((F_Row_get v 39 x3 σ).bind fun r2 => (F_Waves_contains r2 x1 σ).bind fun r4 => if r4 = 0 then L_Tidings_correctionsKnownAt v σ n 0 x1 x2 (x3 + (1 : Int32)) else ((F_Waves_bit x3 σ).bind fun r6 => L_Tidings_correctionsKnownAt v σ n 0 x1 (x2 ||| r6) (x3 + (1 : Int32))))
  | _ + 1, _, _, _, _ => none
theorem e_Tidings_correctionsKnownAt_0 (v : Nat) (σ : zSt) (n : Nat) (x1 : Int32) (x2 : Int32) (x3 : Int32) : L_Tidings_correctionsKnownAt v σ (n + 1) 0 x1 x2 x3 = (if (σ.1 v 24 0) ≤ x3 then some x2 else ((F_Row_get v 39 x3 σ).bind fun r2 => (F_Waves_contains r2 x1 σ).bind fun r4 => if r4 = 0 then L_Tidings_correctionsKnownAt v σ n 0 x1 x2 (x3 + (1 : Int32)) else ((F_Waves_bit x3 σ).bind fun r6 => L_Tidings_correctionsKnownAt v σ n 0 x1 (x2 ||| r6) (x3 + (1 : Int32))))) := rfl
set_option maxHeartbeats 4000000 in
set_option maxRecDepth 100000 in
theorem w_Tidings_correctionsKnownAt {l : Launch} {G : zLA} {p : Program} {e : Env} {s : State} {m : MethodId} {args : Array Value} {below : List Frame} {meth : Method} {c : Code} (C : zCx G p s m args meth c "VillageWaves$Tidings" b_Tidings_correctionsKnownAt 4 (some .int)) {v : Nat} (hv : zvl G v) {σ : zSt} {r : Int32} : ∀ n : Nat, (∀ (x1 : Int32) (x2 : Int32) (x3 : Int32), L_Tidings_correctionsKnownAt v σ n 0 x1 x2 x3 = some r → zWV G p l e rm_Tidings_correctionsKnownAt s m args below meth c 4 0 0 (zQ G below args s rm_Tidings_correctionsKnownAt (some (.int r)) σ) 4 [(0, .ref (zad G v 24)), (1, .int x1), (2, .int x2), (3, .int x3)] [] σ) := by
  intro n
  induction n with
  | zero => exact fun _ _ _ hf => (by cases hf)
  | succ n ih =>
    refine ?_
    · intro x1 x2 x3 hf
      rw [e_Tidings_correctionsKnownAt_0] at hf
      refine z_iload_n C d_Tidings_correctionsKnownAt_4 3 rfl rfl ?_
      refine z_aload_n C d_Tidings_correctionsKnownAt_5 0 rfl rfl ?_
      refine gf_Tidings_9 C (zlv hv 24 rfl) rfl rfl d_Tidings_correctionsKnownAt_6 ?_
      refine z_icmp_ge (tgt := 40) C d_Tidings_correctionsKnownAt_9 rfl (fun h8 => ?_) (fun h8 => ?_)
      · have hf := iff_t hf h8
        refine z_iload_n C d_Tidings_correctionsKnownAt_40 2 rfl rfl ?_
        cases hf
        exact z_iret C rfl (Nat.le_of_ble_eq_true rfl) (Nat.le_of_ble_eq_true rfl) d_Tidings_correctionsKnownAt_41
      · have hf := iff_f hf h8
        refine z_aload_n C d_Tidings_correctionsKnownAt_12 0 rfl rfl ?_
        refine gf_Tidings_42 C (zlv hv 24 rfl) rfl rfl d_Tidings_correctionsKnownAt_13 ?_
        refine z_iload_n C d_Tidings_correctionsKnownAt_16 3 rfl rfl ?_
        obtain ⟨r2, h1, hf⟩ := bd_s hf
        refine z_cVi C kl_Tidings_60 rfl (c_Row_get (zrow_v hv 39 rfl) h1) (zlv hv 39 rfl) rfl rfl rfl (Nat.le_of_ble_eq_true rfl) ⟨(Nat.le_of_ble_eq_true rfl), (Nat.le_of_ble_eq_true rfl)⟩ ⟨(Nat.le_of_ble_eq_true rfl), (Nat.le_of_ble_eq_true rfl)⟩ d_Tidings_correctionsKnownAt_17 ?_
        refine z_iload_n C d_Tidings_correctionsKnownAt_20 1 rfl rfl ?_
        obtain ⟨r4, h3, hf⟩ := bd_s hf
        refine z_cSNi C kl_Tidings_67 (c_Waves_contains h3) rfl rfl (Nat.le_of_ble_eq_true rfl) ⟨(Nat.le_of_ble_eq_true rfl), (Nat.le_of_ble_eq_true rfl)⟩ ⟨(Nat.le_of_ble_eq_true rfl), (Nat.le_of_ble_eq_true rfl)⟩ d_Tidings_correctionsKnownAt_21 ?_
        refine z_if_eq (tgt := 34) C d_Tidings_correctionsKnownAt_24 rfl (fun h7 => ?_) (fun h7 => ?_)
        · have hf := iff_t hf h7
          refine z_iinc C d_Tidings_correctionsKnownAt_34 3 rfl zki_1 (by decide) ?_
          refine z_goto (tgt := 4) C d_Tidings_correctionsKnownAt_37 rfl ?_
          exact z_sub [1, 2, 3, 0] rfl (ih _ _ _ hf)
        · have hf := iff_f hf h7
          refine z_iload_n C d_Tidings_correctionsKnownAt_27 2 rfl rfl ?_
          refine z_iload_n C d_Tidings_correctionsKnownAt_28 3 rfl rfl ?_
          obtain ⟨r6, h5, hf⟩ := bd_s hf
          refine z_cSNi C kl_Tidings_56 (c_Waves_bit h5) rfl rfl (Nat.le_of_ble_eq_true rfl) ⟨(Nat.le_of_ble_eq_true rfl), (Nat.le_of_ble_eq_true rfl)⟩ ⟨(Nat.le_of_ble_eq_true rfl), (Nat.le_of_ble_eq_true rfl)⟩ d_Tidings_correctionsKnownAt_29 ?_
          refine z_ior C d_Tidings_correctionsKnownAt_32 ?_
          refine z_istore_n C d_Tidings_correctionsKnownAt_33 rfl (by decide) ?_
          refine z_iinc C d_Tidings_correctionsKnownAt_34 3 rfl zki_1 (by decide) ?_
          refine z_goto (tgt := 4) C d_Tidings_correctionsKnownAt_37 rfl ?_
          exact z_sub [2, 3, 1, 0] rfl (ih _ _ _ hf)
def F_Tidings_correctionsKnownAt (v : Nat) (a0 : Int32) (σ : zSt) : Option (Int32) :=
  L_Tidings_correctionsKnownAt v σ zK 0 a0 (0 : Int32) (0 : Int32)
set_option maxHeartbeats 4000000 in
set_option maxRecDepth 100000 in
theorem c_Tidings_correctionsKnownAt {l : Launch} {G : zLA} {v : Nat} (hv : zvl G v) {a0 : Int32} {σ : zSt} {r : Int32} (hf : F_Tidings_correctionsKnownAt v a0 σ = some r) : zM l G y_Tidings_correctionsKnownAt (zws y_Tidings_correctionsKnownAt b_Tidings_correctionsKnownAt 4 (some .int)) rm_Tidings_correctionsKnownAt [.ref (zad G v 24), .int a0] σ (some (.int r)) σ := by
  refine z_ofM (own := "VillageWaves$Tidings") (lv := [(0, .ref (zad G v 24)), (1, .int a0)]) (by decide +kernel) rfl rfl (Nat.le_of_ble_eq_true rfl) (fun p e s m args below meth c C => ?_)
  rw [F_Tidings_correctionsKnownAt] at hf
  refine z_iconst C d_Tidings_correctionsKnownAt_0 zki_0 ?_
  refine z_istore_n C d_Tidings_correctionsKnownAt_1 rfl (by decide) ?_
  refine z_iconst C d_Tidings_correctionsKnownAt_2 zki_0 ?_
  refine z_istore_n C d_Tidings_correctionsKnownAt_3 rfl (by decide) ?_
  exact z_sub [2, 3, 1, 0] rfl ((w_Tidings_correctionsKnownAt C hv zK) _ _ _ hf)
abbrev rm_Tidings_uncorrectedAt : Room := { frames := 3, cells := 0, slots := 0, locals := 63 }
theorem d_Tidings_uncorrectedAt_0 : decode b_Tidings_uncorrectedAt 0 = .ok (.iconst 0, 1) := by decide +kernel
theorem d_Tidings_uncorrectedAt_1 : decode b_Tidings_uncorrectedAt 1 = .ok (.istore_n 2, 1) := by decide +kernel
theorem d_Tidings_uncorrectedAt_2 : decode b_Tidings_uncorrectedAt 2 = .ok (.iconst 0, 1) := by decide +kernel
theorem d_Tidings_uncorrectedAt_3 : decode b_Tidings_uncorrectedAt 3 = .ok (.istore_n 3, 1) := by decide +kernel
theorem d_Tidings_uncorrectedAt_4 : decode b_Tidings_uncorrectedAt 4 = .ok (.iload_n 3, 1) := by decide +kernel
theorem d_Tidings_uncorrectedAt_5 : decode b_Tidings_uncorrectedAt 5 = .ok (.aload_n 0, 1) := by decide +kernel
theorem d_Tidings_uncorrectedAt_6 : decode b_Tidings_uncorrectedAt 6 = .ok (.getfield 9, 3) := by decide +kernel
theorem d_Tidings_uncorrectedAt_9 : decode b_Tidings_uncorrectedAt 9 = .ok (.if_icmp .ge 28, 3) := by decide +kernel
theorem d_Tidings_uncorrectedAt_12 : decode b_Tidings_uncorrectedAt 12 = .ok (.aload_n 0, 1) := by decide +kernel
theorem d_Tidings_uncorrectedAt_13 : decode b_Tidings_uncorrectedAt 13 = .ok (.iload_n 3, 1) := by decide +kernel
theorem d_Tidings_uncorrectedAt_14 : decode b_Tidings_uncorrectedAt 14 = .ok (.invokevirtual 71, 3) := by decide +kernel
theorem d_Tidings_uncorrectedAt_17 : decode b_Tidings_uncorrectedAt 17 = .ok (.iload_n 1, 1) := by decide +kernel
theorem d_Tidings_uncorrectedAt_18 : decode b_Tidings_uncorrectedAt 18 = .ok (.invokestatic 67, 3) := by decide +kernel
theorem d_Tidings_uncorrectedAt_21 : decode b_Tidings_uncorrectedAt 21 = .ok (.ifCond .eq 10, 3) := by decide +kernel
theorem d_Tidings_uncorrectedAt_24 : decode b_Tidings_uncorrectedAt 24 = .ok (.iload_n 2, 1) := by decide +kernel
theorem d_Tidings_uncorrectedAt_25 : decode b_Tidings_uncorrectedAt 25 = .ok (.iload_n 3, 1) := by decide +kernel
theorem d_Tidings_uncorrectedAt_26 : decode b_Tidings_uncorrectedAt 26 = .ok (.invokestatic 56, 3) := by decide +kernel
theorem d_Tidings_uncorrectedAt_29 : decode b_Tidings_uncorrectedAt 29 = .ok (.ior, 1) := by decide +kernel
theorem d_Tidings_uncorrectedAt_30 : decode b_Tidings_uncorrectedAt 30 = .ok (.istore_n 2, 1) := by decide +kernel
theorem d_Tidings_uncorrectedAt_31 : decode b_Tidings_uncorrectedAt 31 = .ok (.iinc 3 1, 3) := by decide +kernel
theorem d_Tidings_uncorrectedAt_34 : decode b_Tidings_uncorrectedAt 34 = .ok (.goto (-30), 3) := by decide +kernel
theorem d_Tidings_uncorrectedAt_37 : decode b_Tidings_uncorrectedAt 37 = .ok (.iload_n 2, 1) := by decide +kernel
theorem d_Tidings_uncorrectedAt_38 : decode b_Tidings_uncorrectedAt 38 = .ok (.ireturn, 1) := by decide +kernel
def L_Tidings_uncorrectedAt (v : Nat) (σ : zSt) : Nat → Nat → Int32 → Int32 → Int32 → Option (Int32)
  | 0, _, _, _, _ => none
  | n + 1, 0, x1, x2, x3 => if (σ.1 v 24 0) ≤ x3 then some x2 else ((F_Tidings_uncorrectedHouses v x3 σ).bind fun r2 => (F_Waves_contains r2 x1 σ).bind fun r4 => if r4 = 0 then L_Tidings_uncorrectedAt v σ n 0 x1 x2 (x3 + (1 : Int32)) else ((F_Waves_bit x3 σ).bind fun r6 => L_Tidings_uncorrectedAt v σ n 0 x1 (x2 ||| r6) (x3 + (1 : Int32))))
  | _ + 1, _, _, _, _ => none
theorem e_Tidings_uncorrectedAt_0 (v : Nat) (σ : zSt) (n : Nat) (x1 : Int32) (x2 : Int32) (x3 : Int32) : L_Tidings_uncorrectedAt v σ (n + 1) 0 x1 x2 x3 = (if (σ.1 v 24 0) ≤ x3 then some x2 else ((F_Tidings_uncorrectedHouses v x3 σ).bind fun r2 => (F_Waves_contains r2 x1 σ).bind fun r4 => if r4 = 0 then L_Tidings_uncorrectedAt v σ n 0 x1 x2 (x3 + (1 : Int32)) else ((F_Waves_bit x3 σ).bind fun r6 => L_Tidings_uncorrectedAt v σ n 0 x1 (x2 ||| r6) (x3 + (1 : Int32))))) := rfl
set_option maxHeartbeats 4000000 in
set_option maxRecDepth 100000 in
theorem w_Tidings_uncorrectedAt {l : Launch} {G : zLA} {p : Program} {e : Env} {s : State} {m : MethodId} {args : Array Value} {below : List Frame} {meth : Method} {c : Code} (C : zCx G p s m args meth c "VillageWaves$Tidings" b_Tidings_uncorrectedAt 4 (some .int)) {v : Nat} (hv : zvl G v) {σ : zSt} {r : Int32} : ∀ n : Nat, (∀ (x1 : Int32) (x2 : Int32) (x3 : Int32), L_Tidings_uncorrectedAt v σ n 0 x1 x2 x3 = some r → zWV G p l e rm_Tidings_uncorrectedAt s m args below meth c 4 0 0 (zQ G below args s rm_Tidings_uncorrectedAt (some (.int r)) σ) 4 [(0, .ref (zad G v 24)), (1, .int x1), (2, .int x2), (3, .int x3)] [] σ) := by
  intro n
  induction n with
  | zero => exact fun _ _ _ hf => (by cases hf)
  | succ n ih =>
    refine ?_
    · intro x1 x2 x3 hf
      rw [e_Tidings_uncorrectedAt_0] at hf
      refine z_iload_n C d_Tidings_uncorrectedAt_4 3 rfl rfl ?_
      refine z_aload_n C d_Tidings_uncorrectedAt_5 0 rfl rfl ?_
      refine gf_Tidings_9 C (zlv hv 24 rfl) rfl rfl d_Tidings_uncorrectedAt_6 ?_
      refine z_icmp_ge (tgt := 37) C d_Tidings_uncorrectedAt_9 rfl (fun h8 => ?_) (fun h8 => ?_)
      · have hf := iff_t hf h8
        refine z_iload_n C d_Tidings_uncorrectedAt_37 2 rfl rfl ?_
        cases hf
        exact z_iret C rfl (Nat.le_of_ble_eq_true rfl) (Nat.le_of_ble_eq_true rfl) d_Tidings_uncorrectedAt_38
      · have hf := iff_f hf h8
        refine z_aload_n C d_Tidings_uncorrectedAt_12 0 rfl rfl ?_
        refine z_iload_n C d_Tidings_uncorrectedAt_13 3 rfl rfl ?_
        obtain ⟨r2, h1, hf⟩ := bd_s hf
        refine z_cVi C kl_Tidings_71 rfl (c_Tidings_uncorrectedHouses hv h1) (zlv hv 24 rfl) rfl rfl rfl (Nat.le_of_ble_eq_true rfl) ⟨(Nat.le_of_ble_eq_true rfl), (Nat.le_of_ble_eq_true rfl)⟩ ⟨(Nat.le_of_ble_eq_true rfl), (Nat.le_of_ble_eq_true rfl)⟩ d_Tidings_uncorrectedAt_14 ?_
        refine z_iload_n C d_Tidings_uncorrectedAt_17 1 rfl rfl ?_
        obtain ⟨r4, h3, hf⟩ := bd_s hf
        refine z_cSNi C kl_Tidings_67 (c_Waves_contains h3) rfl rfl (Nat.le_of_ble_eq_true rfl) ⟨(Nat.le_of_ble_eq_true rfl), (Nat.le_of_ble_eq_true rfl)⟩ ⟨(Nat.le_of_ble_eq_true rfl), (Nat.le_of_ble_eq_true rfl)⟩ d_Tidings_uncorrectedAt_18 ?_
        refine z_if_eq (tgt := 31) C d_Tidings_uncorrectedAt_21 rfl (fun h7 => ?_) (fun h7 => ?_)
        · have hf := iff_t hf h7
          refine z_iinc C d_Tidings_uncorrectedAt_31 3 rfl zki_1 (by decide) ?_
          refine z_goto (tgt := 4) C d_Tidings_uncorrectedAt_34 rfl ?_
          exact z_sub [1, 2, 3, 0] rfl (ih _ _ _ hf)
        · have hf := iff_f hf h7
          refine z_iload_n C d_Tidings_uncorrectedAt_24 2 rfl rfl ?_
          refine z_iload_n C d_Tidings_uncorrectedAt_25 3 rfl rfl ?_
          obtain ⟨r6, h5, hf⟩ := bd_s hf
          refine z_cSNi C kl_Tidings_56 (c_Waves_bit h5) rfl rfl (Nat.le_of_ble_eq_true rfl) ⟨(Nat.le_of_ble_eq_true rfl), (Nat.le_of_ble_eq_true rfl)⟩ ⟨(Nat.le_of_ble_eq_true rfl), (Nat.le_of_ble_eq_true rfl)⟩ d_Tidings_uncorrectedAt_26 ?_
          refine z_ior C d_Tidings_uncorrectedAt_29 ?_
          refine z_istore_n C d_Tidings_uncorrectedAt_30 rfl (by decide) ?_
          refine z_iinc C d_Tidings_uncorrectedAt_31 3 rfl zki_1 (by decide) ?_
          refine z_goto (tgt := 4) C d_Tidings_uncorrectedAt_34 rfl ?_
          exact z_sub [2, 3, 1, 0] rfl (ih _ _ _ hf)
def F_Tidings_uncorrectedAt (v : Nat) (a0 : Int32) (σ : zSt) : Option (Int32) :=
  L_Tidings_uncorrectedAt v σ zK 0 a0 (0 : Int32) (0 : Int32)
set_option maxHeartbeats 4000000 in
set_option maxRecDepth 100000 in
theorem c_Tidings_uncorrectedAt {l : Launch} {G : zLA} {v : Nat} (hv : zvl G v) {a0 : Int32} {σ : zSt} {r : Int32} (hf : F_Tidings_uncorrectedAt v a0 σ = some r) : zM l G y_Tidings_uncorrectedAt (zws y_Tidings_uncorrectedAt b_Tidings_uncorrectedAt 4 (some .int)) rm_Tidings_uncorrectedAt [.ref (zad G v 24), .int a0] σ (some (.int r)) σ := by
  refine z_ofM (own := "VillageWaves$Tidings") (lv := [(0, .ref (zad G v 24)), (1, .int a0)]) (by decide +kernel) rfl rfl (Nat.le_of_ble_eq_true rfl) (fun p e s m args below meth c C => ?_)
  rw [F_Tidings_uncorrectedAt] at hf
  refine z_iconst C d_Tidings_uncorrectedAt_0 zki_0 ?_
  refine z_istore_n C d_Tidings_uncorrectedAt_1 rfl (by decide) ?_
  refine z_iconst C d_Tidings_uncorrectedAt_2 zki_0 ?_
  refine z_istore_n C d_Tidings_uncorrectedAt_3 rfl (by decide) ?_
  exact z_sub [2, 3, 1, 0] rfl ((w_Tidings_uncorrectedAt C hv zK) _ _ _ hf)
abbrev rm_Homes_clear : Room := { frames := 0, cells := 0, slots := 0, locals := 0 }
theorem d_Homes_clear_0 : decode b_Homes_clear 0 = .ok (.aload_n 0, 1) := by decide +kernel
theorem d_Homes_clear_1 : decode b_Homes_clear 1 = .ok (.iconst 0, 1) := by decide +kernel
theorem d_Homes_clear_2 : decode b_Homes_clear 2 = .ok (.putfield 9, 3) := by decide +kernel
theorem d_Homes_clear_5 : decode b_Homes_clear 5 = .ok (.return_, 1) := by decide +kernel
def F_Homes_clear (v : Nat) (σ : zSt) : Option (zSt) :=
  some (zst σ v 3 0 (0 : Int32))
set_option maxHeartbeats 4000000 in
set_option maxRecDepth 100000 in
theorem c_Homes_clear {l : Launch} {G : zLA} {v : Nat} (hv : zvl G v) {σ : zSt} {σ' : zSt} (hf : F_Homes_clear v σ = some σ') : zM l G y_Homes_clear (zws y_Homes_clear b_Homes_clear 1 none) rm_Homes_clear [.ref (zad G v 3)] σ none σ' := by
  refine z_ofM (own := "VillageWaves$Homes") (lv := [(0, .ref (zad G v 3))]) (by decide +kernel) rfl rfl (Nat.le_of_ble_eq_true rfl) (fun p e s m args below meth c C => ?_)
  rw [F_Homes_clear] at hf
  refine z_aload_n C d_Homes_clear_0 0 rfl rfl ?_
  refine z_iconst C d_Homes_clear_1 zki_0 ?_
  refine pf_Homes_9 C (zlv hv 3 rfl) rfl (Nat.le_of_ble_eq_true rfl) rfl d_Homes_clear_2 ?_
  cases hf
  exact z_vret C rfl (Nat.le_of_ble_eq_true rfl) (Nat.le_of_ble_eq_true rfl) d_Homes_clear_5
abbrev rm_Homes_copyFrom : Room := { frames := 2, cells := 0, slots := 0, locals := 111 }
theorem d_Homes_copyFrom_0 : decode b_Homes_copyFrom 0 = .ok (.aload_n 0, 1) := by decide +kernel
theorem d_Homes_copyFrom_1 : decode b_Homes_copyFrom 1 = .ok (.aload_n 1, 1) := by decide +kernel
theorem d_Homes_copyFrom_2 : decode b_Homes_copyFrom 2 = .ok (.getfield 9, 3) := by decide +kernel
theorem d_Homes_copyFrom_5 : decode b_Homes_copyFrom 5 = .ok (.putfield 9, 3) := by decide +kernel
theorem d_Homes_copyFrom_8 : decode b_Homes_copyFrom 8 = .ok (.aload_n 0, 1) := by decide +kernel
theorem d_Homes_copyFrom_9 : decode b_Homes_copyFrom 9 = .ok (.getfield 20, 3) := by decide +kernel
theorem d_Homes_copyFrom_12 : decode b_Homes_copyFrom 12 = .ok (.aload_n 1, 1) := by decide +kernel
theorem d_Homes_copyFrom_13 : decode b_Homes_copyFrom 13 = .ok (.getfield 20, 3) := by decide +kernel
theorem d_Homes_copyFrom_16 : decode b_Homes_copyFrom 16 = .ok (.invokevirtual 51, 3) := by decide +kernel
theorem d_Homes_copyFrom_19 : decode b_Homes_copyFrom 19 = .ok (.aload_n 0, 1) := by decide +kernel
theorem d_Homes_copyFrom_20 : decode b_Homes_copyFrom 20 = .ok (.getfield 24, 3) := by decide +kernel
theorem d_Homes_copyFrom_23 : decode b_Homes_copyFrom 23 = .ok (.aload_n 1, 1) := by decide +kernel
theorem d_Homes_copyFrom_24 : decode b_Homes_copyFrom 24 = .ok (.getfield 24, 3) := by decide +kernel
theorem d_Homes_copyFrom_27 : decode b_Homes_copyFrom 27 = .ok (.invokevirtual 51, 3) := by decide +kernel
theorem d_Homes_copyFrom_30 : decode b_Homes_copyFrom 30 = .ok (.aload_n 0, 1) := by decide +kernel
theorem d_Homes_copyFrom_31 : decode b_Homes_copyFrom 31 = .ok (.getfield 27, 3) := by decide +kernel
theorem d_Homes_copyFrom_34 : decode b_Homes_copyFrom 34 = .ok (.aload_n 1, 1) := by decide +kernel
theorem d_Homes_copyFrom_35 : decode b_Homes_copyFrom 35 = .ok (.getfield 27, 3) := by decide +kernel
theorem d_Homes_copyFrom_38 : decode b_Homes_copyFrom 38 = .ok (.invokevirtual 51, 3) := by decide +kernel
theorem d_Homes_copyFrom_41 : decode b_Homes_copyFrom 41 = .ok (.aload_n 0, 1) := by decide +kernel
theorem d_Homes_copyFrom_42 : decode b_Homes_copyFrom 42 = .ok (.getfield 30, 3) := by decide +kernel
theorem d_Homes_copyFrom_45 : decode b_Homes_copyFrom 45 = .ok (.aload_n 1, 1) := by decide +kernel
theorem d_Homes_copyFrom_46 : decode b_Homes_copyFrom 46 = .ok (.getfield 30, 3) := by decide +kernel
theorem d_Homes_copyFrom_49 : decode b_Homes_copyFrom 49 = .ok (.invokevirtual 51, 3) := by decide +kernel
theorem d_Homes_copyFrom_52 : decode b_Homes_copyFrom 52 = .ok (.aload_n 0, 1) := by decide +kernel
theorem d_Homes_copyFrom_53 : decode b_Homes_copyFrom 53 = .ok (.getfield 33, 3) := by decide +kernel
theorem d_Homes_copyFrom_56 : decode b_Homes_copyFrom 56 = .ok (.aload_n 1, 1) := by decide +kernel
theorem d_Homes_copyFrom_57 : decode b_Homes_copyFrom 57 = .ok (.getfield 33, 3) := by decide +kernel
theorem d_Homes_copyFrom_60 : decode b_Homes_copyFrom 60 = .ok (.invokevirtual 51, 3) := by decide +kernel
theorem d_Homes_copyFrom_63 : decode b_Homes_copyFrom 63 = .ok (.aload_n 0, 1) := by decide +kernel
theorem d_Homes_copyFrom_64 : decode b_Homes_copyFrom 64 = .ok (.getfield 36, 3) := by decide +kernel
theorem d_Homes_copyFrom_67 : decode b_Homes_copyFrom 67 = .ok (.aload_n 1, 1) := by decide +kernel
theorem d_Homes_copyFrom_68 : decode b_Homes_copyFrom 68 = .ok (.getfield 36, 3) := by decide +kernel
theorem d_Homes_copyFrom_71 : decode b_Homes_copyFrom 71 = .ok (.invokevirtual 51, 3) := by decide +kernel
theorem d_Homes_copyFrom_74 : decode b_Homes_copyFrom 74 = .ok (.aload_n 0, 1) := by decide +kernel
theorem d_Homes_copyFrom_75 : decode b_Homes_copyFrom 75 = .ok (.getfield 39, 3) := by decide +kernel
theorem d_Homes_copyFrom_78 : decode b_Homes_copyFrom 78 = .ok (.aload_n 1, 1) := by decide +kernel
theorem d_Homes_copyFrom_79 : decode b_Homes_copyFrom 79 = .ok (.getfield 39, 3) := by decide +kernel
theorem d_Homes_copyFrom_82 : decode b_Homes_copyFrom 82 = .ok (.invokevirtual 51, 3) := by decide +kernel
theorem d_Homes_copyFrom_85 : decode b_Homes_copyFrom 85 = .ok (.aload_n 0, 1) := by decide +kernel
theorem d_Homes_copyFrom_86 : decode b_Homes_copyFrom 86 = .ok (.getfield 42, 3) := by decide +kernel
theorem d_Homes_copyFrom_89 : decode b_Homes_copyFrom 89 = .ok (.aload_n 1, 1) := by decide +kernel
theorem d_Homes_copyFrom_90 : decode b_Homes_copyFrom 90 = .ok (.getfield 42, 3) := by decide +kernel
theorem d_Homes_copyFrom_93 : decode b_Homes_copyFrom 93 = .ok (.invokevirtual 51, 3) := by decide +kernel
theorem d_Homes_copyFrom_96 : decode b_Homes_copyFrom 96 = .ok (.aload_n 0, 1) := by decide +kernel
theorem d_Homes_copyFrom_97 : decode b_Homes_copyFrom 97 = .ok (.getfield 45, 3) := by decide +kernel
theorem d_Homes_copyFrom_100 : decode b_Homes_copyFrom 100 = .ok (.aload_n 1, 1) := by decide +kernel
theorem d_Homes_copyFrom_101 : decode b_Homes_copyFrom 101 = .ok (.getfield 45, 3) := by decide +kernel
theorem d_Homes_copyFrom_104 : decode b_Homes_copyFrom 104 = .ok (.invokevirtual 51, 3) := by decide +kernel
theorem d_Homes_copyFrom_107 : decode b_Homes_copyFrom 107 = .ok (.aload_n 0, 1) := by decide +kernel
theorem d_Homes_copyFrom_108 : decode b_Homes_copyFrom 108 = .ok (.getfield 48, 3) := by decide +kernel
theorem d_Homes_copyFrom_111 : decode b_Homes_copyFrom 111 = .ok (.aload_n 1, 1) := by decide +kernel
theorem d_Homes_copyFrom_112 : decode b_Homes_copyFrom 112 = .ok (.getfield 48, 3) := by decide +kernel
theorem d_Homes_copyFrom_115 : decode b_Homes_copyFrom 115 = .ok (.invokevirtual 51, 3) := by decide +kernel
theorem d_Homes_copyFrom_118 : decode b_Homes_copyFrom 118 = .ok (.return_, 1) := by decide +kernel
def F_Homes_copyFrom (v : Nat) (v2 : Nat) (σ : zSt) : Option (zSt) :=
  (F_Row_copyFrom v 4 v2 4 (zst σ v 3 0 (σ.1 v2 3 0))).bind fun σ2 => (F_Row_copyFrom v 6 v2 6 σ2).bind fun σ4 => (F_Row_copyFrom v 8 v2 8 σ4).bind fun σ6 => (F_Row_copyFrom v 10 v2 10 σ6).bind fun σ8 => (F_Row_copyFrom v 12 v2 12 σ8).bind fun σ10 => (F_Row_copyFrom v 14 v2 14 σ10).bind fun σ12 => (F_Row_copyFrom v 16 v2 16 σ12).bind fun σ14 => (F_Row_copyFrom v 18 v2 18 σ14).bind fun σ16 => (F_Row_copyFrom v 20 v2 20 σ16).bind fun σ18 => (F_Row_copyFrom v 22 v2 22 σ18).bind fun σ20 => some σ20
set_option maxHeartbeats 4000000 in
set_option maxRecDepth 100000 in
theorem c_Homes_copyFrom {l : Launch} {G : zLA} {v : Nat} (hv : zvl G v) {v2 : Nat} (hv2 : zvl G v2) {σ : zSt} {σ' : zSt} (hf : F_Homes_copyFrom v v2 σ = some σ') : zM l G y_Homes_copyFrom (zws y_Homes_copyFrom b_Homes_copyFrom 2 none) rm_Homes_copyFrom [.ref (zad G v 3), .ref (zad G v2 3)] σ none σ' := by
  refine z_ofM (own := "VillageWaves$Homes") (lv := [(0, .ref (zad G v 3)), (1, .ref (zad G v2 3))]) (by decide +kernel) rfl rfl (Nat.le_of_ble_eq_true rfl) (fun p e s m args below meth c C => ?_)
  rw [F_Homes_copyFrom] at hf
  refine z_aload_n C d_Homes_copyFrom_0 0 rfl rfl ?_
  refine z_aload_n C d_Homes_copyFrom_1 1 rfl rfl ?_
  refine gf_Homes_9 C (zlv hv2 3 rfl) rfl rfl d_Homes_copyFrom_2 ?_
  refine pf_Homes_9 C (zlv hv 3 rfl) rfl (Nat.le_of_ble_eq_true rfl) rfl d_Homes_copyFrom_5 ?_
  refine z_aload_n C d_Homes_copyFrom_8 0 rfl rfl ?_
  refine gf_Homes_20 C (zlv hv 3 rfl) rfl rfl d_Homes_copyFrom_9 ?_
  refine z_aload_n C d_Homes_copyFrom_12 1 rfl rfl ?_
  refine gf_Homes_20 C (zlv hv2 3 rfl) rfl rfl d_Homes_copyFrom_13 ?_
  obtain ⟨σ2, h1, hf⟩ := bd_s hf
  refine z_cVv C kl_Homes_51 rfl (c_Row_copyFrom (zrow_v hv 4 rfl) (zrow_v hv2 4 rfl) h1) (zlv hv 4 rfl) rfl rfl rfl (Nat.le_of_ble_eq_true rfl) ⟨(Nat.le_of_ble_eq_true rfl), (Nat.le_of_ble_eq_true rfl)⟩ ⟨(Nat.le_of_ble_eq_true rfl), (Nat.le_of_ble_eq_true rfl)⟩ d_Homes_copyFrom_16 ?_
  refine z_aload_n C d_Homes_copyFrom_19 0 rfl rfl ?_
  refine gf_Homes_24 C (zlv hv 3 rfl) rfl rfl d_Homes_copyFrom_20 ?_
  refine z_aload_n C d_Homes_copyFrom_23 1 rfl rfl ?_
  refine gf_Homes_24 C (zlv hv2 3 rfl) rfl rfl d_Homes_copyFrom_24 ?_
  obtain ⟨σ4, h3, hf⟩ := bd_s hf
  refine z_cVv C kl_Homes_51 rfl (c_Row_copyFrom (zrow_v hv 6 rfl) (zrow_v hv2 6 rfl) h3) (zlv hv 6 rfl) rfl rfl rfl (Nat.le_of_ble_eq_true rfl) ⟨(Nat.le_of_ble_eq_true rfl), (Nat.le_of_ble_eq_true rfl)⟩ ⟨(Nat.le_of_ble_eq_true rfl), (Nat.le_of_ble_eq_true rfl)⟩ d_Homes_copyFrom_27 ?_
  refine z_aload_n C d_Homes_copyFrom_30 0 rfl rfl ?_
  refine gf_Homes_27 C (zlv hv 3 rfl) rfl rfl d_Homes_copyFrom_31 ?_
  refine z_aload_n C d_Homes_copyFrom_34 1 rfl rfl ?_
  refine gf_Homes_27 C (zlv hv2 3 rfl) rfl rfl d_Homes_copyFrom_35 ?_
  obtain ⟨σ6, h5, hf⟩ := bd_s hf
  refine z_cVv C kl_Homes_51 rfl (c_Row_copyFrom (zrow_v hv 8 rfl) (zrow_v hv2 8 rfl) h5) (zlv hv 8 rfl) rfl rfl rfl (Nat.le_of_ble_eq_true rfl) ⟨(Nat.le_of_ble_eq_true rfl), (Nat.le_of_ble_eq_true rfl)⟩ ⟨(Nat.le_of_ble_eq_true rfl), (Nat.le_of_ble_eq_true rfl)⟩ d_Homes_copyFrom_38 ?_
  refine z_aload_n C d_Homes_copyFrom_41 0 rfl rfl ?_
  refine gf_Homes_30 C (zlv hv 3 rfl) rfl rfl d_Homes_copyFrom_42 ?_
  refine z_aload_n C d_Homes_copyFrom_45 1 rfl rfl ?_
  refine gf_Homes_30 C (zlv hv2 3 rfl) rfl rfl d_Homes_copyFrom_46 ?_
  obtain ⟨σ8, h7, hf⟩ := bd_s hf
  refine z_cVv C kl_Homes_51 rfl (c_Row_copyFrom (zrow_v hv 10 rfl) (zrow_v hv2 10 rfl) h7) (zlv hv 10 rfl) rfl rfl rfl (Nat.le_of_ble_eq_true rfl) ⟨(Nat.le_of_ble_eq_true rfl), (Nat.le_of_ble_eq_true rfl)⟩ ⟨(Nat.le_of_ble_eq_true rfl), (Nat.le_of_ble_eq_true rfl)⟩ d_Homes_copyFrom_49 ?_
  refine z_aload_n C d_Homes_copyFrom_52 0 rfl rfl ?_
  refine gf_Homes_33 C (zlv hv 3 rfl) rfl rfl d_Homes_copyFrom_53 ?_
  refine z_aload_n C d_Homes_copyFrom_56 1 rfl rfl ?_
  refine gf_Homes_33 C (zlv hv2 3 rfl) rfl rfl d_Homes_copyFrom_57 ?_
  obtain ⟨σ10, h9, hf⟩ := bd_s hf
  refine z_cVv C kl_Homes_51 rfl (c_Row_copyFrom (zrow_v hv 12 rfl) (zrow_v hv2 12 rfl) h9) (zlv hv 12 rfl) rfl rfl rfl (Nat.le_of_ble_eq_true rfl) ⟨(Nat.le_of_ble_eq_true rfl), (Nat.le_of_ble_eq_true rfl)⟩ ⟨(Nat.le_of_ble_eq_true rfl), (Nat.le_of_ble_eq_true rfl)⟩ d_Homes_copyFrom_60 ?_
  refine z_aload_n C d_Homes_copyFrom_63 0 rfl rfl ?_
  refine gf_Homes_36 C (zlv hv 3 rfl) rfl rfl d_Homes_copyFrom_64 ?_
  refine z_aload_n C d_Homes_copyFrom_67 1 rfl rfl ?_
  refine gf_Homes_36 C (zlv hv2 3 rfl) rfl rfl d_Homes_copyFrom_68 ?_
  obtain ⟨σ12, h11, hf⟩ := bd_s hf
  refine z_cVv C kl_Homes_51 rfl (c_Row_copyFrom (zrow_v hv 14 rfl) (zrow_v hv2 14 rfl) h11) (zlv hv 14 rfl) rfl rfl rfl (Nat.le_of_ble_eq_true rfl) ⟨(Nat.le_of_ble_eq_true rfl), (Nat.le_of_ble_eq_true rfl)⟩ ⟨(Nat.le_of_ble_eq_true rfl), (Nat.le_of_ble_eq_true rfl)⟩ d_Homes_copyFrom_71 ?_
  refine z_aload_n C d_Homes_copyFrom_74 0 rfl rfl ?_
  refine gf_Homes_39 C (zlv hv 3 rfl) rfl rfl d_Homes_copyFrom_75 ?_
  refine z_aload_n C d_Homes_copyFrom_78 1 rfl rfl ?_
  refine gf_Homes_39 C (zlv hv2 3 rfl) rfl rfl d_Homes_copyFrom_79 ?_
  obtain ⟨σ14, h13, hf⟩ := bd_s hf
  refine z_cVv C kl_Homes_51 rfl (c_Row_copyFrom (zrow_v hv 16 rfl) (zrow_v hv2 16 rfl) h13) (zlv hv 16 rfl) rfl rfl rfl (Nat.le_of_ble_eq_true rfl) ⟨(Nat.le_of_ble_eq_true rfl), (Nat.le_of_ble_eq_true rfl)⟩ ⟨(Nat.le_of_ble_eq_true rfl), (Nat.le_of_ble_eq_true rfl)⟩ d_Homes_copyFrom_82 ?_
  refine z_aload_n C d_Homes_copyFrom_85 0 rfl rfl ?_
  refine gf_Homes_42 C (zlv hv 3 rfl) rfl rfl d_Homes_copyFrom_86 ?_
  refine z_aload_n C d_Homes_copyFrom_89 1 rfl rfl ?_
  refine gf_Homes_42 C (zlv hv2 3 rfl) rfl rfl d_Homes_copyFrom_90 ?_
  obtain ⟨σ16, h15, hf⟩ := bd_s hf
  refine z_cVv C kl_Homes_51 rfl (c_Row_copyFrom (zrow_v hv 18 rfl) (zrow_v hv2 18 rfl) h15) (zlv hv 18 rfl) rfl rfl rfl (Nat.le_of_ble_eq_true rfl) ⟨(Nat.le_of_ble_eq_true rfl), (Nat.le_of_ble_eq_true rfl)⟩ ⟨(Nat.le_of_ble_eq_true rfl), (Nat.le_of_ble_eq_true rfl)⟩ d_Homes_copyFrom_93 ?_
  refine z_aload_n C d_Homes_copyFrom_96 0 rfl rfl ?_
  refine gf_Homes_45 C (zlv hv 3 rfl) rfl rfl d_Homes_copyFrom_97 ?_
  refine z_aload_n C d_Homes_copyFrom_100 1 rfl rfl ?_
  refine gf_Homes_45 C (zlv hv2 3 rfl) rfl rfl d_Homes_copyFrom_101 ?_
  obtain ⟨σ18, h17, hf⟩ := bd_s hf
  refine z_cVv C kl_Homes_51 rfl (c_Row_copyFrom (zrow_v hv 20 rfl) (zrow_v hv2 20 rfl) h17) (zlv hv 20 rfl) rfl rfl rfl (Nat.le_of_ble_eq_true rfl) ⟨(Nat.le_of_ble_eq_true rfl), (Nat.le_of_ble_eq_true rfl)⟩ ⟨(Nat.le_of_ble_eq_true rfl), (Nat.le_of_ble_eq_true rfl)⟩ d_Homes_copyFrom_104 ?_
  refine z_aload_n C d_Homes_copyFrom_107 0 rfl rfl ?_
  refine gf_Homes_48 C (zlv hv 3 rfl) rfl rfl d_Homes_copyFrom_108 ?_
  refine z_aload_n C d_Homes_copyFrom_111 1 rfl rfl ?_
  refine gf_Homes_48 C (zlv hv2 3 rfl) rfl rfl d_Homes_copyFrom_112 ?_
  obtain ⟨σ20, h19, hf⟩ := bd_s hf
  refine z_cVv C kl_Homes_51 rfl (c_Row_copyFrom (zrow_v hv 22 rfl) (zrow_v hv2 22 rfl) h19) (zlv hv 22 rfl) rfl rfl rfl (Nat.le_of_ble_eq_true rfl) ⟨(Nat.le_of_ble_eq_true rfl), (Nat.le_of_ble_eq_true rfl)⟩ ⟨(Nat.le_of_ble_eq_true rfl), (Nat.le_of_ble_eq_true rfl)⟩ d_Homes_copyFrom_115 ?_
  cases hf
  exact z_vret C rfl (Nat.le_of_ble_eq_true rfl) (Nat.le_of_ble_eq_true rfl) d_Homes_copyFrom_118
abbrev rm_Homes_isFull : Room := { frames := 0, cells := 0, slots := 0, locals := 0 }
theorem d_Homes_isFull_0 : decode b_Homes_isFull 0 = .ok (.aload_n 0, 1) := by decide +kernel
theorem d_Homes_isFull_1 : decode b_Homes_isFull 1 = .ok (.getfield 9, 3) := by decide +kernel
theorem d_Homes_isFull_4 : decode b_Homes_isFull 4 = .ok (.bipush 12, 2) := by decide +kernel
theorem d_Homes_isFull_6 : decode b_Homes_isFull 6 = .ok (.if_icmp .lt 7, 3) := by decide +kernel
theorem d_Homes_isFull_9 : decode b_Homes_isFull 9 = .ok (.iconst 1, 1) := by decide +kernel
theorem d_Homes_isFull_10 : decode b_Homes_isFull 10 = .ok (.goto 4, 3) := by decide +kernel
theorem d_Homes_isFull_13 : decode b_Homes_isFull 13 = .ok (.iconst 0, 1) := by decide +kernel
theorem d_Homes_isFull_14 : decode b_Homes_isFull 14 = .ok (.ireturn, 1) := by decide +kernel
def F_Homes_isFull (v : Nat) (σ : zSt) : Option (Int32) :=
  if (σ.1 v 3 0) < (12 : Int32) then some (0 : Int32) else some (1 : Int32)
set_option maxHeartbeats 4000000 in
set_option maxRecDepth 100000 in
theorem c_Homes_isFull {l : Launch} {G : zLA} {v : Nat} (hv : zvl G v) {σ : zSt} {r : Int32} (hf : F_Homes_isFull v σ = some r) : zM l G y_Homes_isFull (zws y_Homes_isFull b_Homes_isFull 1 (some .boolean)) rm_Homes_isFull [.ref (zad G v 3)] σ (some (.int r)) σ := by
  refine z_ofM (own := "VillageWaves$Homes") (lv := [(0, .ref (zad G v 3))]) (by decide +kernel) rfl rfl (Nat.le_of_ble_eq_true rfl) (fun p e s m args below meth c C => ?_)
  rw [F_Homes_isFull] at hf
  refine z_aload_n C d_Homes_isFull_0 0 rfl rfl ?_
  refine gf_Homes_9 C (zlv hv 3 rfl) rfl rfl d_Homes_isFull_1 ?_
  refine z_bipush C d_Homes_isFull_4 zkb_12 ?_
  refine z_icmp_lt (tgt := 13) C d_Homes_isFull_6 rfl (fun h1 => ?_) (fun h1 => ?_)
  · have hf := iff_t hf h1
    refine z_iconst C d_Homes_isFull_13 zki_0 ?_
    cases hf
    exact z_zret C rfl rfl (Nat.le_of_ble_eq_true rfl) (Nat.le_of_ble_eq_true rfl) d_Homes_isFull_14
  · have hf := iff_f hf h1
    refine z_iconst C d_Homes_isFull_9 zki_1 ?_
    refine z_goto (tgt := 14) C d_Homes_isFull_10 rfl ?_
    cases hf
    exact z_zret C rfl rfl (Nat.le_of_ble_eq_true rfl) (Nat.le_of_ble_eq_true rfl) d_Homes_isFull_14
abbrev rm_Homes_distance : Room := { frames := 1, cells := 0, slots := 0, locals := 21 }
theorem d_Homes_distance_0 : decode b_Homes_distance 0 = .ok (.aload_n 0, 1) := by decide +kernel
theorem d_Homes_distance_1 : decode b_Homes_distance 1 = .ok (.getfield 20, 3) := by decide +kernel
theorem d_Homes_distance_4 : decode b_Homes_distance 4 = .ok (.iload_n 1, 1) := by decide +kernel
theorem d_Homes_distance_5 : decode b_Homes_distance 5 = .ok (.invokevirtual 66, 3) := by decide +kernel
theorem d_Homes_distance_8 : decode b_Homes_distance 8 = .ok (.aload_n 0, 1) := by decide +kernel
theorem d_Homes_distance_9 : decode b_Homes_distance 9 = .ok (.getfield 20, 3) := by decide +kernel
theorem d_Homes_distance_12 : decode b_Homes_distance 12 = .ok (.iload_n 2, 1) := by decide +kernel
theorem d_Homes_distance_13 : decode b_Homes_distance 13 = .ok (.invokevirtual 66, 3) := by decide +kernel
theorem d_Homes_distance_16 : decode b_Homes_distance 16 = .ok (.isub, 1) := by decide +kernel
theorem d_Homes_distance_17 : decode b_Homes_distance 17 = .ok (.istore_n 3, 1) := by decide +kernel
theorem d_Homes_distance_18 : decode b_Homes_distance 18 = .ok (.aload_n 0, 1) := by decide +kernel
theorem d_Homes_distance_19 : decode b_Homes_distance 19 = .ok (.getfield 24, 3) := by decide +kernel
theorem d_Homes_distance_22 : decode b_Homes_distance 22 = .ok (.iload_n 1, 1) := by decide +kernel
theorem d_Homes_distance_23 : decode b_Homes_distance 23 = .ok (.invokevirtual 66, 3) := by decide +kernel
theorem d_Homes_distance_26 : decode b_Homes_distance 26 = .ok (.aload_n 0, 1) := by decide +kernel
theorem d_Homes_distance_27 : decode b_Homes_distance 27 = .ok (.getfield 24, 3) := by decide +kernel
theorem d_Homes_distance_30 : decode b_Homes_distance 30 = .ok (.iload_n 2, 1) := by decide +kernel
theorem d_Homes_distance_31 : decode b_Homes_distance 31 = .ok (.invokevirtual 66, 3) := by decide +kernel
theorem d_Homes_distance_34 : decode b_Homes_distance 34 = .ok (.isub, 1) := by decide +kernel
theorem d_Homes_distance_35 : decode b_Homes_distance 35 = .ok (.istore 4, 2) := by decide +kernel
theorem d_Homes_distance_37 : decode b_Homes_distance 37 = .ok (.iload_n 3, 1) := by decide +kernel
theorem d_Homes_distance_38 : decode b_Homes_distance 38 = .ok (.iload_n 3, 1) := by decide +kernel
theorem d_Homes_distance_39 : decode b_Homes_distance 39 = .ok (.imul, 1) := by decide +kernel
theorem d_Homes_distance_40 : decode b_Homes_distance 40 = .ok (.iload 4, 2) := by decide +kernel
theorem d_Homes_distance_42 : decode b_Homes_distance 42 = .ok (.iload 4, 2) := by decide +kernel
theorem d_Homes_distance_44 : decode b_Homes_distance 44 = .ok (.imul, 1) := by decide +kernel
theorem d_Homes_distance_45 : decode b_Homes_distance 45 = .ok (.iadd, 1) := by decide +kernel
theorem d_Homes_distance_46 : decode b_Homes_distance 46 = .ok (.ireturn, 1) := by decide +kernel
def F_Homes_distance (v : Nat) (a0 : Int32) (a1 : Int32) (σ : zSt) : Option (Int32) :=
  (F_Row_get v 4 a0 σ).bind fun r2 => (F_Row_get v 4 a1 σ).bind fun r4 => (F_Row_get v 6 a0 σ).bind fun r6 => (F_Row_get v 6 a1 σ).bind fun r8 => some (((r2 - r4) * (r2 - r4)) + ((r6 - r8) * (r6 - r8)))
set_option maxHeartbeats 4000000 in
set_option maxRecDepth 100000 in
theorem c_Homes_distance {l : Launch} {G : zLA} {v : Nat} (hv : zvl G v) {a0 : Int32} {a1 : Int32} {σ : zSt} {r : Int32} (hf : F_Homes_distance v a0 a1 σ = some r) : zM l G y_Homes_distance (zws y_Homes_distance b_Homes_distance 5 (some .int)) rm_Homes_distance [.ref (zad G v 3), .int a0, .int a1] σ (some (.int r)) σ := by
  refine z_ofM (own := "VillageWaves$Homes") (lv := [(0, .ref (zad G v 3)), (1, .int a0), (2, .int a1)]) (by decide +kernel) rfl rfl (Nat.le_of_ble_eq_true rfl) (fun p e s m args below meth c C => ?_)
  rw [F_Homes_distance] at hf
  refine z_aload_n C d_Homes_distance_0 0 rfl rfl ?_
  refine gf_Homes_20 C (zlv hv 3 rfl) rfl rfl d_Homes_distance_1 ?_
  refine z_iload_n C d_Homes_distance_4 1 rfl rfl ?_
  obtain ⟨r2, h1, hf⟩ := bd_s hf
  refine z_cVi C kl_Homes_66 rfl (c_Row_get (zrow_v hv 4 rfl) h1) (zlv hv 4 rfl) rfl rfl rfl (Nat.le_of_ble_eq_true rfl) ⟨(Nat.le_of_ble_eq_true rfl), (Nat.le_of_ble_eq_true rfl)⟩ ⟨(Nat.le_of_ble_eq_true rfl), (Nat.le_of_ble_eq_true rfl)⟩ d_Homes_distance_5 ?_
  refine z_aload_n C d_Homes_distance_8 0 rfl rfl ?_
  refine gf_Homes_20 C (zlv hv 3 rfl) rfl rfl d_Homes_distance_9 ?_
  refine z_iload_n C d_Homes_distance_12 2 rfl rfl ?_
  obtain ⟨r4, h3, hf⟩ := bd_s hf
  refine z_cVi C kl_Homes_66 rfl (c_Row_get (zrow_v hv 4 rfl) h3) (zlv hv 4 rfl) rfl rfl rfl (Nat.le_of_ble_eq_true rfl) ⟨(Nat.le_of_ble_eq_true rfl), (Nat.le_of_ble_eq_true rfl)⟩ ⟨(Nat.le_of_ble_eq_true rfl), (Nat.le_of_ble_eq_true rfl)⟩ d_Homes_distance_13 ?_
  refine z_isub C d_Homes_distance_16 ?_
  refine z_istore_n C d_Homes_distance_17 rfl (by decide) ?_
  refine z_aload_n C d_Homes_distance_18 1 rfl rfl ?_
  refine gf_Homes_24 C (zlv hv 3 rfl) rfl rfl d_Homes_distance_19 ?_
  refine z_iload_n C d_Homes_distance_22 2 rfl rfl ?_
  obtain ⟨r6, h5, hf⟩ := bd_s hf
  refine z_cVi C kl_Homes_66 rfl (c_Row_get (zrow_v hv 6 rfl) h5) (zlv hv 6 rfl) rfl rfl rfl (Nat.le_of_ble_eq_true rfl) ⟨(Nat.le_of_ble_eq_true rfl), (Nat.le_of_ble_eq_true rfl)⟩ ⟨(Nat.le_of_ble_eq_true rfl), (Nat.le_of_ble_eq_true rfl)⟩ d_Homes_distance_23 ?_
  refine z_aload_n C d_Homes_distance_26 1 rfl rfl ?_
  refine gf_Homes_24 C (zlv hv 3 rfl) rfl rfl d_Homes_distance_27 ?_
  refine z_iload_n C d_Homes_distance_30 3 rfl rfl ?_
  obtain ⟨r8, h7, hf⟩ := bd_s hf
  refine z_cVi C kl_Homes_66 rfl (c_Row_get (zrow_v hv 6 rfl) h7) (zlv hv 6 rfl) rfl rfl rfl (Nat.le_of_ble_eq_true rfl) ⟨(Nat.le_of_ble_eq_true rfl), (Nat.le_of_ble_eq_true rfl)⟩ ⟨(Nat.le_of_ble_eq_true rfl), (Nat.le_of_ble_eq_true rfl)⟩ d_Homes_distance_31 ?_
  refine z_isub C d_Homes_distance_34 ?_
  refine z_istore C d_Homes_distance_35 (by decide) ?_
  refine z_iload_n C d_Homes_distance_37 1 rfl rfl ?_
  refine z_iload_n C d_Homes_distance_38 1 rfl rfl ?_
  refine z_imul C d_Homes_distance_39 ?_
  refine z_iload C d_Homes_distance_40 0 rfl ?_
  refine z_iload C d_Homes_distance_42 0 rfl ?_
  refine z_imul C d_Homes_distance_44 ?_
  refine z_iadd C d_Homes_distance_45 ?_
  cases hf
  exact z_iret C rfl (Nat.le_of_ble_eq_true rfl) (Nat.le_of_ble_eq_true rfl) d_Homes_distance_46
abbrev rm_Homes_noteRange : Room := { frames := 2, cells := 0, slots := 0, locals := 45 }
theorem d_Homes_noteRange_0 : decode b_Homes_noteRange 0 = .ok (.aload_n 0, 1) := by decide +kernel
theorem d_Homes_noteRange_1 : decode b_Homes_noteRange 1 = .ok (.iload_n 1, 1) := by decide +kernel
theorem d_Homes_noteRange_2 : decode b_Homes_noteRange 2 = .ok (.iload_n 2, 1) := by decide +kernel
theorem d_Homes_noteRange_3 : decode b_Homes_noteRange 3 = .ok (.invokevirtual 62, 3) := by decide +kernel
theorem d_Homes_noteRange_6 : decode b_Homes_noteRange 6 = .ok (.aload_n 0, 1) := by decide +kernel
theorem d_Homes_noteRange_7 : decode b_Homes_noteRange 7 = .ok (.getfield 27, 3) := by decide +kernel
theorem d_Homes_noteRange_10 : decode b_Homes_noteRange 10 = .ok (.iload_n 1, 1) := by decide +kernel
theorem d_Homes_noteRange_11 : decode b_Homes_noteRange 11 = .ok (.invokevirtual 66, 3) := by decide +kernel
theorem d_Homes_noteRange_14 : decode b_Homes_noteRange 14 = .ok (.aload_n 0, 1) := by decide +kernel
theorem d_Homes_noteRange_15 : decode b_Homes_noteRange 15 = .ok (.getfield 27, 3) := by decide +kernel
theorem d_Homes_noteRange_18 : decode b_Homes_noteRange 18 = .ok (.iload_n 1, 1) := by decide +kernel
theorem d_Homes_noteRange_19 : decode b_Homes_noteRange 19 = .ok (.invokevirtual 66, 3) := by decide +kernel
theorem d_Homes_noteRange_22 : decode b_Homes_noteRange 22 = .ok (.imul, 1) := by decide +kernel
theorem d_Homes_noteRange_23 : decode b_Homes_noteRange 23 = .ok (.if_icmp .gt 12, 3) := by decide +kernel
theorem d_Homes_noteRange_26 : decode b_Homes_noteRange 26 = .ok (.aload_n 0, 1) := by decide +kernel
theorem d_Homes_noteRange_27 : decode b_Homes_noteRange 27 = .ok (.getfield 48, 3) := by decide +kernel
theorem d_Homes_noteRange_30 : decode b_Homes_noteRange 30 = .ok (.iload_n 1, 1) := by decide +kernel
theorem d_Homes_noteRange_31 : decode b_Homes_noteRange 31 = .ok (.iload_n 2, 1) := by decide +kernel
theorem d_Homes_noteRange_32 : decode b_Homes_noteRange 32 = .ok (.invokevirtual 70, 3) := by decide +kernel
theorem d_Homes_noteRange_35 : decode b_Homes_noteRange 35 = .ok (.return_, 1) := by decide +kernel
def F_Homes_noteRange (v : Nat) (a0 : Int32) (a1 : Int32) (σ : zSt) : Option (zSt) :=
  (F_Homes_distance v a0 a1 σ).bind fun r2 => (F_Row_get v 8 a0 σ).bind fun r4 => (F_Row_get v 8 a0 σ).bind fun r6 => if (r4 * r6) < r2 then some σ else ((F_Row_join v 22 a0 a1 σ).bind fun σ8 => some σ8)
set_option maxHeartbeats 4000000 in
set_option maxRecDepth 100000 in
theorem c_Homes_noteRange {l : Launch} {G : zLA} {v : Nat} (hv : zvl G v) {a0 : Int32} {a1 : Int32} {σ : zSt} {σ' : zSt} (hf : F_Homes_noteRange v a0 a1 σ = some σ') : zM l G y_Homes_noteRange (zws y_Homes_noteRange b_Homes_noteRange 3 none) rm_Homes_noteRange [.ref (zad G v 3), .int a0, .int a1] σ none σ' := by
  refine z_ofM (own := "VillageWaves$Homes") (lv := [(0, .ref (zad G v 3)), (1, .int a0), (2, .int a1)]) (by decide +kernel) rfl rfl (Nat.le_of_ble_eq_true rfl) (fun p e s m args below meth c C => ?_)
  rw [F_Homes_noteRange] at hf
  refine z_aload_n C d_Homes_noteRange_0 0 rfl rfl ?_
  refine z_iload_n C d_Homes_noteRange_1 1 rfl rfl ?_
  refine z_iload_n C d_Homes_noteRange_2 2 rfl rfl ?_
  obtain ⟨r2, h1, hf⟩ := bd_s hf
  refine z_cVi C kl_Homes_62 rfl (c_Homes_distance hv h1) (zlv hv 3 rfl) rfl rfl rfl (Nat.le_of_ble_eq_true rfl) ⟨(Nat.le_of_ble_eq_true rfl), (Nat.le_of_ble_eq_true rfl)⟩ ⟨(Nat.le_of_ble_eq_true rfl), (Nat.le_of_ble_eq_true rfl)⟩ d_Homes_noteRange_3 ?_
  refine z_aload_n C d_Homes_noteRange_6 0 rfl rfl ?_
  refine gf_Homes_27 C (zlv hv 3 rfl) rfl rfl d_Homes_noteRange_7 ?_
  refine z_iload_n C d_Homes_noteRange_10 1 rfl rfl ?_
  obtain ⟨r4, h3, hf⟩ := bd_s hf
  refine z_cVi C kl_Homes_66 rfl (c_Row_get (zrow_v hv 8 rfl) h3) (zlv hv 8 rfl) rfl rfl rfl (Nat.le_of_ble_eq_true rfl) ⟨(Nat.le_of_ble_eq_true rfl), (Nat.le_of_ble_eq_true rfl)⟩ ⟨(Nat.le_of_ble_eq_true rfl), (Nat.le_of_ble_eq_true rfl)⟩ d_Homes_noteRange_11 ?_
  refine z_aload_n C d_Homes_noteRange_14 0 rfl rfl ?_
  refine gf_Homes_27 C (zlv hv 3 rfl) rfl rfl d_Homes_noteRange_15 ?_
  refine z_iload_n C d_Homes_noteRange_18 1 rfl rfl ?_
  obtain ⟨r6, h5, hf⟩ := bd_s hf
  refine z_cVi C kl_Homes_66 rfl (c_Row_get (zrow_v hv 8 rfl) h5) (zlv hv 8 rfl) rfl rfl rfl (Nat.le_of_ble_eq_true rfl) ⟨(Nat.le_of_ble_eq_true rfl), (Nat.le_of_ble_eq_true rfl)⟩ ⟨(Nat.le_of_ble_eq_true rfl), (Nat.le_of_ble_eq_true rfl)⟩ d_Homes_noteRange_19 ?_
  refine z_imul C d_Homes_noteRange_22 ?_
  refine z_icmp_gt (tgt := 35) C d_Homes_noteRange_23 rfl (fun h9 => ?_) (fun h9 => ?_)
  · have hf := iff_t hf h9
    cases hf
    exact z_vret C rfl (Nat.le_of_ble_eq_true rfl) (Nat.le_of_ble_eq_true rfl) d_Homes_noteRange_35
  · have hf := iff_f hf h9
    refine z_aload_n C d_Homes_noteRange_26 0 rfl rfl ?_
    refine gf_Homes_48 C (zlv hv 3 rfl) rfl rfl d_Homes_noteRange_27 ?_
    refine z_iload_n C d_Homes_noteRange_30 1 rfl rfl ?_
    refine z_iload_n C d_Homes_noteRange_31 2 rfl rfl ?_
    obtain ⟨σ8, h7, hf⟩ := bd_s hf
    refine z_cVv C kl_Homes_70 rfl (c_Row_join (zrow_v hv 22 rfl) h7) (zlv hv 22 rfl) rfl rfl rfl (Nat.le_of_ble_eq_true rfl) ⟨(Nat.le_of_ble_eq_true rfl), (Nat.le_of_ble_eq_true rfl)⟩ ⟨(Nat.le_of_ble_eq_true rfl), (Nat.le_of_ble_eq_true rfl)⟩ d_Homes_noteRange_32 ?_
    cases hf
    exact z_vret C rfl (Nat.le_of_ble_eq_true rfl) (Nat.le_of_ble_eq_true rfl) d_Homes_noteRange_35
abbrev rm_Homes_add : Room := { frames := 3, cells := 0, slots := 0, locals := 67 }
theorem d_Homes_add_0 : decode b_Homes_add 0 = .ok (.aload_n 0, 1) := by decide +kernel
theorem d_Homes_add_1 : decode b_Homes_add 1 = .ok (.getfield 9, 3) := by decide +kernel
theorem d_Homes_add_4 : decode b_Homes_add 4 = .ok (.istore 6, 2) := by decide +kernel
theorem d_Homes_add_6 : decode b_Homes_add 6 = .ok (.aload_n 0, 1) := by decide +kernel
theorem d_Homes_add_7 : decode b_Homes_add 7 = .ok (.getfield 20, 3) := by decide +kernel
theorem d_Homes_add_10 : decode b_Homes_add 10 = .ok (.iload 6, 2) := by decide +kernel
theorem d_Homes_add_12 : decode b_Homes_add 12 = .ok (.iload_n 1, 1) := by decide +kernel
theorem d_Homes_add_13 : decode b_Homes_add 13 = .ok (.invokevirtual 55, 3) := by decide +kernel
theorem d_Homes_add_16 : decode b_Homes_add 16 = .ok (.aload_n 0, 1) := by decide +kernel
theorem d_Homes_add_17 : decode b_Homes_add 17 = .ok (.getfield 24, 3) := by decide +kernel
theorem d_Homes_add_20 : decode b_Homes_add 20 = .ok (.iload 6, 2) := by decide +kernel
theorem d_Homes_add_22 : decode b_Homes_add 22 = .ok (.iload_n 2, 1) := by decide +kernel
theorem d_Homes_add_23 : decode b_Homes_add 23 = .ok (.invokevirtual 55, 3) := by decide +kernel
theorem d_Homes_add_26 : decode b_Homes_add 26 = .ok (.aload_n 0, 1) := by decide +kernel
theorem d_Homes_add_27 : decode b_Homes_add 27 = .ok (.getfield 27, 3) := by decide +kernel
theorem d_Homes_add_30 : decode b_Homes_add 30 = .ok (.iload 6, 2) := by decide +kernel
theorem d_Homes_add_32 : decode b_Homes_add 32 = .ok (.iload_n 3, 1) := by decide +kernel
theorem d_Homes_add_33 : decode b_Homes_add 33 = .ok (.invokevirtual 55, 3) := by decide +kernel
theorem d_Homes_add_36 : decode b_Homes_add 36 = .ok (.aload_n 0, 1) := by decide +kernel
theorem d_Homes_add_37 : decode b_Homes_add 37 = .ok (.getfield 30, 3) := by decide +kernel
theorem d_Homes_add_40 : decode b_Homes_add 40 = .ok (.iload 6, 2) := by decide +kernel
theorem d_Homes_add_42 : decode b_Homes_add 42 = .ok (.iload 4, 2) := by decide +kernel
theorem d_Homes_add_44 : decode b_Homes_add 44 = .ok (.invokevirtual 55, 3) := by decide +kernel
theorem d_Homes_add_47 : decode b_Homes_add 47 = .ok (.aload_n 0, 1) := by decide +kernel
theorem d_Homes_add_48 : decode b_Homes_add 48 = .ok (.getfield 33, 3) := by decide +kernel
theorem d_Homes_add_51 : decode b_Homes_add 51 = .ok (.iload 6, 2) := by decide +kernel
theorem d_Homes_add_53 : decode b_Homes_add 53 = .ok (.iload 5, 2) := by decide +kernel
theorem d_Homes_add_55 : decode b_Homes_add 55 = .ok (.invokevirtual 55, 3) := by decide +kernel
theorem d_Homes_add_58 : decode b_Homes_add 58 = .ok (.aload_n 0, 1) := by decide +kernel
theorem d_Homes_add_59 : decode b_Homes_add 59 = .ok (.getfield 36, 3) := by decide +kernel
theorem d_Homes_add_62 : decode b_Homes_add 62 = .ok (.iload 6, 2) := by decide +kernel
theorem d_Homes_add_64 : decode b_Homes_add 64 = .ok (.iconst (-1), 1) := by decide +kernel
theorem d_Homes_add_65 : decode b_Homes_add 65 = .ok (.invokevirtual 55, 3) := by decide +kernel
theorem d_Homes_add_68 : decode b_Homes_add 68 = .ok (.aload_n 0, 1) := by decide +kernel
theorem d_Homes_add_69 : decode b_Homes_add 69 = .ok (.getfield 39, 3) := by decide +kernel
theorem d_Homes_add_72 : decode b_Homes_add 72 = .ok (.iload 6, 2) := by decide +kernel
theorem d_Homes_add_74 : decode b_Homes_add 74 = .ok (.iconst (-1), 1) := by decide +kernel
theorem d_Homes_add_75 : decode b_Homes_add 75 = .ok (.invokevirtual 55, 3) := by decide +kernel
theorem d_Homes_add_78 : decode b_Homes_add 78 = .ok (.aload_n 0, 1) := by decide +kernel
theorem d_Homes_add_79 : decode b_Homes_add 79 = .ok (.getfield 42, 3) := by decide +kernel
theorem d_Homes_add_82 : decode b_Homes_add 82 = .ok (.iload 6, 2) := by decide +kernel
theorem d_Homes_add_84 : decode b_Homes_add 84 = .ok (.iconst 0, 1) := by decide +kernel
theorem d_Homes_add_85 : decode b_Homes_add 85 = .ok (.invokevirtual 55, 3) := by decide +kernel
theorem d_Homes_add_88 : decode b_Homes_add 88 = .ok (.aload_n 0, 1) := by decide +kernel
theorem d_Homes_add_89 : decode b_Homes_add 89 = .ok (.getfield 45, 3) := by decide +kernel
theorem d_Homes_add_92 : decode b_Homes_add 92 = .ok (.iload 6, 2) := by decide +kernel
theorem d_Homes_add_94 : decode b_Homes_add 94 = .ok (.iconst 0, 1) := by decide +kernel
theorem d_Homes_add_95 : decode b_Homes_add 95 = .ok (.invokevirtual 55, 3) := by decide +kernel
theorem d_Homes_add_98 : decode b_Homes_add 98 = .ok (.aload_n 0, 1) := by decide +kernel
theorem d_Homes_add_99 : decode b_Homes_add 99 = .ok (.getfield 48, 3) := by decide +kernel
theorem d_Homes_add_102 : decode b_Homes_add 102 = .ok (.iload 6, 2) := by decide +kernel
theorem d_Homes_add_104 : decode b_Homes_add 104 = .ok (.iconst 0, 1) := by decide +kernel
theorem d_Homes_add_105 : decode b_Homes_add 105 = .ok (.invokevirtual 55, 3) := by decide +kernel
theorem d_Homes_add_108 : decode b_Homes_add 108 = .ok (.iconst 0, 1) := by decide +kernel
theorem d_Homes_add_109 : decode b_Homes_add 109 = .ok (.istore 7, 2) := by decide +kernel
theorem d_Homes_add_111 : decode b_Homes_add 111 = .ok (.iload 7, 2) := by decide +kernel
theorem d_Homes_add_113 : decode b_Homes_add 113 = .ok (.iload 6, 2) := by decide +kernel
theorem d_Homes_add_115 : decode b_Homes_add 115 = .ok (.if_icmp .ge 25, 3) := by decide +kernel
theorem d_Homes_add_118 : decode b_Homes_add 118 = .ok (.aload_n 0, 1) := by decide +kernel
theorem d_Homes_add_119 : decode b_Homes_add 119 = .ok (.iload 6, 2) := by decide +kernel
theorem d_Homes_add_121 : decode b_Homes_add 121 = .ok (.iload 7, 2) := by decide +kernel
theorem d_Homes_add_123 : decode b_Homes_add 123 = .ok (.invokevirtual 59, 3) := by decide +kernel
theorem d_Homes_add_126 : decode b_Homes_add 126 = .ok (.aload_n 0, 1) := by decide +kernel
theorem d_Homes_add_127 : decode b_Homes_add 127 = .ok (.iload 7, 2) := by decide +kernel
theorem d_Homes_add_129 : decode b_Homes_add 129 = .ok (.iload 6, 2) := by decide +kernel
theorem d_Homes_add_131 : decode b_Homes_add 131 = .ok (.invokevirtual 59, 3) := by decide +kernel
theorem d_Homes_add_134 : decode b_Homes_add 134 = .ok (.iinc 7 1, 3) := by decide +kernel
theorem d_Homes_add_137 : decode b_Homes_add 137 = .ok (.goto (-26), 3) := by decide +kernel
theorem d_Homes_add_140 : decode b_Homes_add 140 = .ok (.aload_n 0, 1) := by decide +kernel
theorem d_Homes_add_141 : decode b_Homes_add 141 = .ok (.iload 6, 2) := by decide +kernel
theorem d_Homes_add_143 : decode b_Homes_add 143 = .ok (.iconst 1, 1) := by decide +kernel
theorem d_Homes_add_144 : decode b_Homes_add 144 = .ok (.iadd, 1) := by decide +kernel
theorem d_Homes_add_145 : decode b_Homes_add 145 = .ok (.putfield 9, 3) := by decide +kernel
theorem d_Homes_add_148 : decode b_Homes_add 148 = .ok (.iload 6, 2) := by decide +kernel
theorem d_Homes_add_150 : decode b_Homes_add 150 = .ok (.ireturn, 1) := by decide +kernel
def L_Homes_add (v : Nat) : Nat → Nat → Int32 → Int32 → zSt → Option (Int32 × zSt)
  | 0, _, _, _, _ => none
  | n + 1, 0, x6, x7, σ => if x6 ≤ x7 then some (x6, (zst σ v 3 0 (x6 + (1 : Int32)))) else ((F_Homes_noteRange v x6 x7 σ).bind fun σ22 => (F_Homes_noteRange v x7 x6 σ22).bind fun σ24 => L_Homes_add v n 0 x6 (x7 + (1 : Int32)) σ24)
  | _ + 1, _, _, _, _ => none
theorem e_Homes_add_0 (v : Nat) (n : Nat) (x6 : Int32) (x7 : Int32) (σ : zSt) : L_Homes_add v (n + 1) 0 x6 x7 σ = (if x6 ≤ x7 then some (x6, (zst σ v 3 0 (x6 + (1 : Int32)))) else ((F_Homes_noteRange v x6 x7 σ).bind fun σ22 => (F_Homes_noteRange v x7 x6 σ22).bind fun σ24 => L_Homes_add v n 0 x6 (x7 + (1 : Int32)) σ24)) := rfl
set_option maxHeartbeats 4000000 in
set_option maxRecDepth 100000 in
theorem w_Homes_add {l : Launch} {G : zLA} {p : Program} {e : Env} {s : State} {m : MethodId} {args : Array Value} {below : List Frame} {meth : Method} {c : Code} (C : zCx G p s m args meth c "VillageWaves$Homes" b_Homes_add 8 (some .int)) {v : Nat} (hv : zvl G v) {r : Int32} {σ' : zSt} : ∀ n : Nat, (∀ (x6 : Int32) (x7 : Int32) (σ : zSt), L_Homes_add v n 0 x6 x7 σ = some (r, σ') → zWV G p l e rm_Homes_add s m args below meth c 8 0 0 (zQ G below args s rm_Homes_add (some (.int r)) σ') 111 [(0, .ref (zad G v 3)), (6, .int x6), (7, .int x7)] [] σ) := by
  intro n
  induction n with
  | zero => exact fun _ _ _ hf => (by cases hf)
  | succ n ih =>
    refine ?_
    · intro x6 x7 σ hf
      rw [e_Homes_add_0] at hf
      refine z_iload C d_Homes_add_111 2 rfl ?_
      refine z_iload C d_Homes_add_113 1 rfl ?_
      refine z_icmp_ge (tgt := 140) C d_Homes_add_115 rfl (fun h25 => ?_) (fun h25 => ?_)
      · have hf := iff_t hf h25
        refine z_aload_n C d_Homes_add_140 0 rfl rfl ?_
        refine z_iload C d_Homes_add_141 1 rfl ?_
        refine z_iconst C d_Homes_add_143 zki_1 ?_
        refine z_iadd C d_Homes_add_144 ?_
        refine pf_Homes_9 C (zlv hv 3 rfl) rfl (Nat.le_of_ble_eq_true rfl) rfl d_Homes_add_145 ?_
        refine z_iload C d_Homes_add_148 1 rfl ?_
        cases hf
        exact z_iret C rfl (Nat.le_of_ble_eq_true rfl) (Nat.le_of_ble_eq_true rfl) d_Homes_add_150
      · have hf := iff_f hf h25
        refine z_aload_n C d_Homes_add_118 0 rfl rfl ?_
        refine z_iload C d_Homes_add_119 1 rfl ?_
        refine z_iload C d_Homes_add_121 2 rfl ?_
        obtain ⟨σ22, h21, hf⟩ := bd_s hf
        refine z_cVv C kl_Homes_59 rfl (c_Homes_noteRange hv h21) (zlv hv 3 rfl) rfl rfl rfl (Nat.le_of_ble_eq_true rfl) ⟨(Nat.le_of_ble_eq_true rfl), (Nat.le_of_ble_eq_true rfl)⟩ ⟨(Nat.le_of_ble_eq_true rfl), (Nat.le_of_ble_eq_true rfl)⟩ d_Homes_add_123 ?_
        refine z_aload_n C d_Homes_add_126 0 rfl rfl ?_
        refine z_iload C d_Homes_add_127 2 rfl ?_
        refine z_iload C d_Homes_add_129 1 rfl ?_
        obtain ⟨σ24, h23, hf⟩ := bd_s hf
        refine z_cVv C kl_Homes_59 rfl (c_Homes_noteRange hv h23) (zlv hv 3 rfl) rfl rfl rfl (Nat.le_of_ble_eq_true rfl) ⟨(Nat.le_of_ble_eq_true rfl), (Nat.le_of_ble_eq_true rfl)⟩ ⟨(Nat.le_of_ble_eq_true rfl), (Nat.le_of_ble_eq_true rfl)⟩ d_Homes_add_131 ?_
        refine z_iinc C d_Homes_add_134 2 rfl zki_1 (by decide) ?_
        refine z_goto (tgt := 111) C d_Homes_add_137 rfl ?_
        exact z_sub [1, 2, 0] rfl (ih _ _ _ hf)
def F_Homes_add (v : Nat) (a0 : Int32) (a1 : Int32) (a2 : Int32) (a3 : Int32) (a4 : Int32) (σ : zSt) : Option (Int32 × zSt) :=
  (F_Row_put v 4 (σ.1 v 3 0) a0 σ).bind fun σ2 => (F_Row_put v 6 (σ.1 v 3 0) a1 σ2).bind fun σ4 => (F_Row_put v 8 (σ.1 v 3 0) a2 σ4).bind fun σ6 => (F_Row_put v 10 (σ.1 v 3 0) a3 σ6).bind fun σ8 => (F_Row_put v 12 (σ.1 v 3 0) a4 σ8).bind fun σ10 => (F_Row_put v 14 (σ.1 v 3 0) (-1 : Int32) σ10).bind fun σ12 => (F_Row_put v 16 (σ.1 v 3 0) (-1 : Int32) σ12).bind fun σ14 => (F_Row_put v 18 (σ.1 v 3 0) (0 : Int32) σ14).bind fun σ16 => (F_Row_put v 20 (σ.1 v 3 0) (0 : Int32) σ16).bind fun σ18 => (F_Row_put v 22 (σ.1 v 3 0) (0 : Int32) σ18).bind fun σ20 => L_Homes_add v zK 0 (σ.1 v 3 0) (0 : Int32) σ20
set_option maxHeartbeats 4000000 in
set_option maxRecDepth 100000 in
theorem c_Homes_add {l : Launch} {G : zLA} {v : Nat} (hv : zvl G v) {a0 : Int32} {a1 : Int32} {a2 : Int32} {a3 : Int32} {a4 : Int32} {σ : zSt} {r : Int32} {σ' : zSt} (hf : F_Homes_add v a0 a1 a2 a3 a4 σ = some (r, σ')) : zM l G y_Homes_add (zws y_Homes_add b_Homes_add 8 (some .int)) rm_Homes_add [.ref (zad G v 3), .int a0, .int a1, .int a2, .int a3, .int a4] σ (some (.int r)) σ' := by
  refine z_ofM (own := "VillageWaves$Homes") (lv := [(0, .ref (zad G v 3)), (1, .int a0), (2, .int a1), (3, .int a2), (4, .int a3), (5, .int a4)]) (by decide +kernel) rfl rfl (Nat.le_of_ble_eq_true rfl) (fun p e s m args below meth c C => ?_)
  rw [F_Homes_add] at hf
  refine z_aload_n C d_Homes_add_0 0 rfl rfl ?_
  refine gf_Homes_9 C (zlv hv 3 rfl) rfl rfl d_Homes_add_1 ?_
  refine z_istore C d_Homes_add_4 (by decide) ?_
  refine z_aload_n C d_Homes_add_6 1 rfl rfl ?_
  refine gf_Homes_20 C (zlv hv 3 rfl) rfl rfl d_Homes_add_7 ?_
  refine z_iload C d_Homes_add_10 0 rfl ?_
  refine z_iload_n C d_Homes_add_12 2 rfl rfl ?_
  obtain ⟨σ2, h1, hf⟩ := bd_s hf
  refine z_cVv C kl_Homes_55 rfl (c_Row_put (zrow_v hv 4 rfl) h1) (zlv hv 4 rfl) rfl rfl rfl (Nat.le_of_ble_eq_true rfl) ⟨(Nat.le_of_ble_eq_true rfl), (Nat.le_of_ble_eq_true rfl)⟩ ⟨(Nat.le_of_ble_eq_true rfl), (Nat.le_of_ble_eq_true rfl)⟩ d_Homes_add_13 ?_
  refine z_aload_n C d_Homes_add_16 1 rfl rfl ?_
  refine gf_Homes_24 C (zlv hv 3 rfl) rfl rfl d_Homes_add_17 ?_
  refine z_iload C d_Homes_add_20 0 rfl ?_
  refine z_iload_n C d_Homes_add_22 3 rfl rfl ?_
  obtain ⟨σ4, h3, hf⟩ := bd_s hf
  refine z_cVv C kl_Homes_55 rfl (c_Row_put (zrow_v hv 6 rfl) h3) (zlv hv 6 rfl) rfl rfl rfl (Nat.le_of_ble_eq_true rfl) ⟨(Nat.le_of_ble_eq_true rfl), (Nat.le_of_ble_eq_true rfl)⟩ ⟨(Nat.le_of_ble_eq_true rfl), (Nat.le_of_ble_eq_true rfl)⟩ d_Homes_add_23 ?_
  refine z_aload_n C d_Homes_add_26 1 rfl rfl ?_
  refine gf_Homes_27 C (zlv hv 3 rfl) rfl rfl d_Homes_add_27 ?_
  refine z_iload C d_Homes_add_30 0 rfl ?_
  refine z_iload_n C d_Homes_add_32 4 rfl rfl ?_
  obtain ⟨σ6, h5, hf⟩ := bd_s hf
  refine z_cVv C kl_Homes_55 rfl (c_Row_put (zrow_v hv 8 rfl) h5) (zlv hv 8 rfl) rfl rfl rfl (Nat.le_of_ble_eq_true rfl) ⟨(Nat.le_of_ble_eq_true rfl), (Nat.le_of_ble_eq_true rfl)⟩ ⟨(Nat.le_of_ble_eq_true rfl), (Nat.le_of_ble_eq_true rfl)⟩ d_Homes_add_33 ?_
  refine z_aload_n C d_Homes_add_36 1 rfl rfl ?_
  refine gf_Homes_30 C (zlv hv 3 rfl) rfl rfl d_Homes_add_37 ?_
  refine z_iload C d_Homes_add_40 0 rfl ?_
  refine z_iload C d_Homes_add_42 5 rfl ?_
  obtain ⟨σ8, h7, hf⟩ := bd_s hf
  refine z_cVv C kl_Homes_55 rfl (c_Row_put (zrow_v hv 10 rfl) h7) (zlv hv 10 rfl) rfl rfl rfl (Nat.le_of_ble_eq_true rfl) ⟨(Nat.le_of_ble_eq_true rfl), (Nat.le_of_ble_eq_true rfl)⟩ ⟨(Nat.le_of_ble_eq_true rfl), (Nat.le_of_ble_eq_true rfl)⟩ d_Homes_add_44 ?_
  refine z_aload_n C d_Homes_add_47 1 rfl rfl ?_
  refine gf_Homes_33 C (zlv hv 3 rfl) rfl rfl d_Homes_add_48 ?_
  refine z_iload C d_Homes_add_51 0 rfl ?_
  refine z_iload C d_Homes_add_53 6 rfl ?_
  obtain ⟨σ10, h9, hf⟩ := bd_s hf
  refine z_cVv C kl_Homes_55 rfl (c_Row_put (zrow_v hv 12 rfl) h9) (zlv hv 12 rfl) rfl rfl rfl (Nat.le_of_ble_eq_true rfl) ⟨(Nat.le_of_ble_eq_true rfl), (Nat.le_of_ble_eq_true rfl)⟩ ⟨(Nat.le_of_ble_eq_true rfl), (Nat.le_of_ble_eq_true rfl)⟩ d_Homes_add_55 ?_
  refine z_aload_n C d_Homes_add_58 1 rfl rfl ?_
  refine gf_Homes_36 C (zlv hv 3 rfl) rfl rfl d_Homes_add_59 ?_
  refine z_iload C d_Homes_add_62 0 rfl ?_
  refine z_iconst C d_Homes_add_64 zki_m1 ?_
  obtain ⟨σ12, h11, hf⟩ := bd_s hf
  refine z_cVv C kl_Homes_55 rfl (c_Row_put (zrow_v hv 14 rfl) h11) (zlv hv 14 rfl) rfl rfl rfl (Nat.le_of_ble_eq_true rfl) ⟨(Nat.le_of_ble_eq_true rfl), (Nat.le_of_ble_eq_true rfl)⟩ ⟨(Nat.le_of_ble_eq_true rfl), (Nat.le_of_ble_eq_true rfl)⟩ d_Homes_add_65 ?_
  refine z_aload_n C d_Homes_add_68 1 rfl rfl ?_
  refine gf_Homes_39 C (zlv hv 3 rfl) rfl rfl d_Homes_add_69 ?_
  refine z_iload C d_Homes_add_72 0 rfl ?_
  refine z_iconst C d_Homes_add_74 zki_m1 ?_
  obtain ⟨σ14, h13, hf⟩ := bd_s hf
  refine z_cVv C kl_Homes_55 rfl (c_Row_put (zrow_v hv 16 rfl) h13) (zlv hv 16 rfl) rfl rfl rfl (Nat.le_of_ble_eq_true rfl) ⟨(Nat.le_of_ble_eq_true rfl), (Nat.le_of_ble_eq_true rfl)⟩ ⟨(Nat.le_of_ble_eq_true rfl), (Nat.le_of_ble_eq_true rfl)⟩ d_Homes_add_75 ?_
  refine z_aload_n C d_Homes_add_78 1 rfl rfl ?_
  refine gf_Homes_42 C (zlv hv 3 rfl) rfl rfl d_Homes_add_79 ?_
  refine z_iload C d_Homes_add_82 0 rfl ?_
  refine z_iconst C d_Homes_add_84 zki_0 ?_
  obtain ⟨σ16, h15, hf⟩ := bd_s hf
  refine z_cVv C kl_Homes_55 rfl (c_Row_put (zrow_v hv 18 rfl) h15) (zlv hv 18 rfl) rfl rfl rfl (Nat.le_of_ble_eq_true rfl) ⟨(Nat.le_of_ble_eq_true rfl), (Nat.le_of_ble_eq_true rfl)⟩ ⟨(Nat.le_of_ble_eq_true rfl), (Nat.le_of_ble_eq_true rfl)⟩ d_Homes_add_85 ?_
  refine z_aload_n C d_Homes_add_88 1 rfl rfl ?_
  refine gf_Homes_45 C (zlv hv 3 rfl) rfl rfl d_Homes_add_89 ?_
  refine z_iload C d_Homes_add_92 0 rfl ?_
  refine z_iconst C d_Homes_add_94 zki_0 ?_
  obtain ⟨σ18, h17, hf⟩ := bd_s hf
  refine z_cVv C kl_Homes_55 rfl (c_Row_put (zrow_v hv 20 rfl) h17) (zlv hv 20 rfl) rfl rfl rfl (Nat.le_of_ble_eq_true rfl) ⟨(Nat.le_of_ble_eq_true rfl), (Nat.le_of_ble_eq_true rfl)⟩ ⟨(Nat.le_of_ble_eq_true rfl), (Nat.le_of_ble_eq_true rfl)⟩ d_Homes_add_95 ?_
  refine z_aload_n C d_Homes_add_98 1 rfl rfl ?_
  refine gf_Homes_48 C (zlv hv 3 rfl) rfl rfl d_Homes_add_99 ?_
  refine z_iload C d_Homes_add_102 0 rfl ?_
  refine z_iconst C d_Homes_add_104 zki_0 ?_
  obtain ⟨σ20, h19, hf⟩ := bd_s hf
  refine z_cVv C kl_Homes_55 rfl (c_Row_put (zrow_v hv 22 rfl) h19) (zlv hv 22 rfl) rfl rfl rfl (Nat.le_of_ble_eq_true rfl) ⟨(Nat.le_of_ble_eq_true rfl), (Nat.le_of_ble_eq_true rfl)⟩ ⟨(Nat.le_of_ble_eq_true rfl), (Nat.le_of_ble_eq_true rfl)⟩ d_Homes_add_105 ?_
  refine z_iconst C d_Homes_add_108 zki_0 ?_
  refine z_istore C d_Homes_add_109 (by decide) ?_
  exact z_sub [2, 1, 0] rfl ((w_Homes_add C hv zK) _ _ _ hf)
abbrev rm_Homes_addToBattery : Room := { frames := 1, cells := 0, slots := 0, locals := 24 }
theorem d_Homes_addToBattery_0 : decode b_Homes_addToBattery 0 = .ok (.aload_n 0, 1) := by decide +kernel
theorem d_Homes_addToBattery_1 : decode b_Homes_addToBattery 1 = .ok (.getfield 30, 3) := by decide +kernel
theorem d_Homes_addToBattery_4 : decode b_Homes_addToBattery 4 = .ok (.iload_n 1, 1) := by decide +kernel
theorem d_Homes_addToBattery_5 : decode b_Homes_addToBattery 5 = .ok (.iconst 0, 1) := by decide +kernel
theorem d_Homes_addToBattery_6 : decode b_Homes_addToBattery 6 = .ok (.sipush 999, 3) := by decide +kernel
theorem d_Homes_addToBattery_9 : decode b_Homes_addToBattery 9 = .ok (.aload_n 0, 1) := by decide +kernel
theorem d_Homes_addToBattery_10 : decode b_Homes_addToBattery 10 = .ok (.getfield 30, 3) := by decide +kernel
theorem d_Homes_addToBattery_13 : decode b_Homes_addToBattery 13 = .ok (.iload_n 1, 1) := by decide +kernel
theorem d_Homes_addToBattery_14 : decode b_Homes_addToBattery 14 = .ok (.invokevirtual 66, 3) := by decide +kernel
theorem d_Homes_addToBattery_17 : decode b_Homes_addToBattery 17 = .ok (.iload_n 2, 1) := by decide +kernel
theorem d_Homes_addToBattery_18 : decode b_Homes_addToBattery 18 = .ok (.iadd, 1) := by decide +kernel
theorem d_Homes_addToBattery_19 : decode b_Homes_addToBattery 19 = .ok (.invokestatic 73, 3) := by decide +kernel
theorem d_Homes_addToBattery_22 : decode b_Homes_addToBattery 22 = .ok (.invokestatic 78, 3) := by decide +kernel
theorem d_Homes_addToBattery_25 : decode b_Homes_addToBattery 25 = .ok (.invokevirtual 55, 3) := by decide +kernel
theorem d_Homes_addToBattery_28 : decode b_Homes_addToBattery 28 = .ok (.return_, 1) := by decide +kernel
def F_Homes_addToBattery (v : Nat) (a0 : Int32) (a1 : Int32) (σ : zSt) : Option (zSt) :=
  (F_Row_get v 10 a0 σ).bind fun r2 => (F_Row_put v 10 a0 (if (0 : Int32) < (if (r2 + a1) < (999 : Int32) then (r2 + a1) else (999 : Int32)) then (if (r2 + a1) < (999 : Int32) then (r2 + a1) else (999 : Int32)) else (0 : Int32)) σ).bind fun σ4 => some σ4
set_option maxHeartbeats 4000000 in
set_option maxRecDepth 100000 in
theorem c_Homes_addToBattery {l : Launch} {G : zLA} {v : Nat} (hv : zvl G v) {a0 : Int32} {a1 : Int32} {σ : zSt} {σ' : zSt} (hf : F_Homes_addToBattery v a0 a1 σ = some σ') : zM l G y_Homes_addToBattery (zws y_Homes_addToBattery b_Homes_addToBattery 3 none) rm_Homes_addToBattery [.ref (zad G v 3), .int a0, .int a1] σ none σ' := by
  refine z_ofM (own := "VillageWaves$Homes") (lv := [(0, .ref (zad G v 3)), (1, .int a0), (2, .int a1)]) (by decide +kernel) rfl rfl (Nat.le_of_ble_eq_true rfl) (fun p e s m args below meth c C => ?_)
  rw [F_Homes_addToBattery] at hf
  refine z_aload_n C d_Homes_addToBattery_0 0 rfl rfl ?_
  refine gf_Homes_30 C (zlv hv 3 rfl) rfl rfl d_Homes_addToBattery_1 ?_
  refine z_iload_n C d_Homes_addToBattery_4 1 rfl rfl ?_
  refine z_iconst C d_Homes_addToBattery_5 zki_0 ?_
  refine z_sipush C d_Homes_addToBattery_6 zks_999 ?_
  refine z_aload_n C d_Homes_addToBattery_9 0 rfl rfl ?_
  refine gf_Homes_30 C (zlv hv 3 rfl) rfl rfl d_Homes_addToBattery_10 ?_
  refine z_iload_n C d_Homes_addToBattery_13 1 rfl rfl ?_
  obtain ⟨r2, h1, hf⟩ := bd_s hf
  refine z_cVi C kl_Homes_66 rfl (c_Row_get (zrow_v hv 10 rfl) h1) (zlv hv 10 rfl) rfl rfl rfl (Nat.le_of_ble_eq_true rfl) ⟨(Nat.le_of_ble_eq_true rfl), (Nat.le_of_ble_eq_true rfl)⟩ ⟨(Nat.le_of_ble_eq_true rfl), (Nat.le_of_ble_eq_true rfl)⟩ d_Homes_addToBattery_14 ?_
  refine z_iload_n C d_Homes_addToBattery_17 2 rfl rfl ?_
  refine z_iadd C d_Homes_addToBattery_18 ?_
  refine z_mmin C zq805 rfl (Nat.le_of_ble_eq_true rfl) (Nat.le_of_ble_eq_true rfl) (Nat.le_of_ble_eq_true rfl) (Nat.le_of_ble_eq_true rfl) (Nat.le_of_ble_eq_true rfl) d_Homes_addToBattery_19 ?_
  refine z_mmax C zq806 rfl (Nat.le_of_ble_eq_true rfl) (Nat.le_of_ble_eq_true rfl) (Nat.le_of_ble_eq_true rfl) (Nat.le_of_ble_eq_true rfl) (Nat.le_of_ble_eq_true rfl) d_Homes_addToBattery_22 ?_
  obtain ⟨σ4, h3, hf⟩ := bd_s hf
  refine z_cVv C kl_Homes_55 rfl (c_Row_put (zrow_v hv 10 rfl) h3) (zlv hv 10 rfl) rfl rfl rfl (Nat.le_of_ble_eq_true rfl) ⟨(Nat.le_of_ble_eq_true rfl), (Nat.le_of_ble_eq_true rfl)⟩ ⟨(Nat.le_of_ble_eq_true rfl), (Nat.le_of_ble_eq_true rfl)⟩ d_Homes_addToBattery_25 ?_
  cases hf
  exact z_vret C rfl (Nat.le_of_ble_eq_true rfl) (Nat.le_of_ble_eq_true rfl) d_Homes_addToBattery_28
abbrev rm_Homes_beginDay : Room := { frames := 2, cells := 0, slots := 0, locals := 46 }
theorem d_Homes_beginDay_0 : decode b_Homes_beginDay 0 = .ok (.iconst 0, 1) := by decide +kernel
theorem d_Homes_beginDay_1 : decode b_Homes_beginDay 1 = .ok (.istore_n 2, 1) := by decide +kernel
theorem d_Homes_beginDay_2 : decode b_Homes_beginDay 2 = .ok (.iload_n 2, 1) := by decide +kernel
theorem d_Homes_beginDay_3 : decode b_Homes_beginDay 3 = .ok (.aload_n 0, 1) := by decide +kernel
theorem d_Homes_beginDay_4 : decode b_Homes_beginDay 4 = .ok (.getfield 9, 3) := by decide +kernel
theorem d_Homes_beginDay_7 : decode b_Homes_beginDay 7 = .ok (.if_icmp .ge 24, 3) := by decide +kernel
theorem d_Homes_beginDay_10 : decode b_Homes_beginDay 10 = .ok (.aload_n 0, 1) := by decide +kernel
theorem d_Homes_beginDay_11 : decode b_Homes_beginDay 11 = .ok (.iload_n 2, 1) := by decide +kernel
theorem d_Homes_beginDay_12 : decode b_Homes_beginDay 12 = .ok (.iload_n 1, 1) := by decide +kernel
theorem d_Homes_beginDay_13 : decode b_Homes_beginDay 13 = .ok (.invokevirtual 81, 3) := by decide +kernel
theorem d_Homes_beginDay_16 : decode b_Homes_beginDay 16 = .ok (.aload_n 0, 1) := by decide +kernel
theorem d_Homes_beginDay_17 : decode b_Homes_beginDay 17 = .ok (.getfield 42, 3) := by decide +kernel
theorem d_Homes_beginDay_20 : decode b_Homes_beginDay 20 = .ok (.iload_n 2, 1) := by decide +kernel
theorem d_Homes_beginDay_21 : decode b_Homes_beginDay 21 = .ok (.iconst 0, 1) := by decide +kernel
theorem d_Homes_beginDay_22 : decode b_Homes_beginDay 22 = .ok (.invokevirtual 55, 3) := by decide +kernel
theorem d_Homes_beginDay_25 : decode b_Homes_beginDay 25 = .ok (.iinc 2 1, 3) := by decide +kernel
theorem d_Homes_beginDay_28 : decode b_Homes_beginDay 28 = .ok (.goto (-26), 3) := by decide +kernel
theorem d_Homes_beginDay_31 : decode b_Homes_beginDay 31 = .ok (.return_, 1) := by decide +kernel
def L_Homes_beginDay (v : Nat) : Nat → Nat → Int32 → Int32 → zSt → Option (zSt)
  | 0, _, _, _, _ => none
  | n + 1, 0, x1, x2, σ => if (σ.1 v 3 0) ≤ x2 then some σ else ((F_Homes_addToBattery v x2 x1 σ).bind fun σ2 => (F_Row_put v 18 x2 (0 : Int32) σ2).bind fun σ4 => L_Homes_beginDay v n 0 x1 (x2 + (1 : Int32)) σ4)
  | _ + 1, _, _, _, _ => none
theorem e_Homes_beginDay_0 (v : Nat) (n : Nat) (x1 : Int32) (x2 : Int32) (σ : zSt) : L_Homes_beginDay v (n + 1) 0 x1 x2 σ = (if (σ.1 v 3 0) ≤ x2 then some σ else ((F_Homes_addToBattery v x2 x1 σ).bind fun σ2 => (F_Row_put v 18 x2 (0 : Int32) σ2).bind fun σ4 => L_Homes_beginDay v n 0 x1 (x2 + (1 : Int32)) σ4)) := rfl
set_option maxHeartbeats 4000000 in
set_option maxRecDepth 100000 in
theorem w_Homes_beginDay {l : Launch} {G : zLA} {p : Program} {e : Env} {s : State} {m : MethodId} {args : Array Value} {below : List Frame} {meth : Method} {c : Code} (C : zCx G p s m args meth c "VillageWaves$Homes" b_Homes_beginDay 3 none) {v : Nat} (hv : zvl G v) {σ' : zSt} : ∀ n : Nat, (∀ (x1 : Int32) (x2 : Int32) (σ : zSt), L_Homes_beginDay v n 0 x1 x2 σ = some σ' → zWV G p l e rm_Homes_beginDay s m args below meth c 3 0 0 (zQ G below args s rm_Homes_beginDay none σ') 2 [(0, .ref (zad G v 3)), (1, .int x1), (2, .int x2)] [] σ) := by
  intro n
  induction n with
  | zero => exact fun _ _ _ hf => (by cases hf)
  | succ n ih =>
    refine ?_
    · intro x1 x2 σ hf
      rw [e_Homes_beginDay_0] at hf
      refine z_iload_n C d_Homes_beginDay_2 2 rfl rfl ?_
      refine z_aload_n C d_Homes_beginDay_3 0 rfl rfl ?_
      refine gf_Homes_9 C (zlv hv 3 rfl) rfl rfl d_Homes_beginDay_4 ?_
      refine z_icmp_ge (tgt := 31) C d_Homes_beginDay_7 rfl (fun h5 => ?_) (fun h5 => ?_)
      · have hf := iff_t hf h5
        cases hf
        exact z_vret C rfl (Nat.le_of_ble_eq_true rfl) (Nat.le_of_ble_eq_true rfl) d_Homes_beginDay_31
      · have hf := iff_f hf h5
        refine z_aload_n C d_Homes_beginDay_10 0 rfl rfl ?_
        refine z_iload_n C d_Homes_beginDay_11 2 rfl rfl ?_
        refine z_iload_n C d_Homes_beginDay_12 1 rfl rfl ?_
        obtain ⟨σ2, h1, hf⟩ := bd_s hf
        refine z_cVv C kl_Homes_81 rfl (c_Homes_addToBattery hv h1) (zlv hv 3 rfl) rfl rfl rfl (Nat.le_of_ble_eq_true rfl) ⟨(Nat.le_of_ble_eq_true rfl), (Nat.le_of_ble_eq_true rfl)⟩ ⟨(Nat.le_of_ble_eq_true rfl), (Nat.le_of_ble_eq_true rfl)⟩ d_Homes_beginDay_13 ?_
        refine z_aload_n C d_Homes_beginDay_16 0 rfl rfl ?_
        refine gf_Homes_42 C (zlv hv 3 rfl) rfl rfl d_Homes_beginDay_17 ?_
        refine z_iload_n C d_Homes_beginDay_20 2 rfl rfl ?_
        refine z_iconst C d_Homes_beginDay_21 zki_0 ?_
        obtain ⟨σ4, h3, hf⟩ := bd_s hf
        refine z_cVv C kl_Homes_55 rfl (c_Row_put (zrow_v hv 18 rfl) h3) (zlv hv 18 rfl) rfl rfl rfl (Nat.le_of_ble_eq_true rfl) ⟨(Nat.le_of_ble_eq_true rfl), (Nat.le_of_ble_eq_true rfl)⟩ ⟨(Nat.le_of_ble_eq_true rfl), (Nat.le_of_ble_eq_true rfl)⟩ d_Homes_beginDay_22 ?_
        refine z_iinc C d_Homes_beginDay_25 2 rfl zki_1 (by decide) ?_
        refine z_goto (tgt := 2) C d_Homes_beginDay_28 rfl ?_
        exact z_sub [1, 2, 0] rfl (ih _ _ _ hf)
def F_Homes_beginDay (v : Nat) (a0 : Int32) (σ : zSt) : Option (zSt) :=
  L_Homes_beginDay v zK 0 a0 (0 : Int32) σ
set_option maxHeartbeats 4000000 in
set_option maxRecDepth 100000 in
theorem c_Homes_beginDay {l : Launch} {G : zLA} {v : Nat} (hv : zvl G v) {a0 : Int32} {σ : zSt} {σ' : zSt} (hf : F_Homes_beginDay v a0 σ = some σ') : zM l G y_Homes_beginDay (zws y_Homes_beginDay b_Homes_beginDay 3 none) rm_Homes_beginDay [.ref (zad G v 3), .int a0] σ none σ' := by
  refine z_ofM (own := "VillageWaves$Homes") (lv := [(0, .ref (zad G v 3)), (1, .int a0)]) (by decide +kernel) rfl rfl (Nat.le_of_ble_eq_true rfl) (fun p e s m args below meth c C => ?_)
  rw [F_Homes_beginDay] at hf
  refine z_iconst C d_Homes_beginDay_0 zki_0 ?_
  refine z_istore_n C d_Homes_beginDay_1 rfl (by decide) ?_
  exact z_sub [1, 2, 0] rfl ((w_Homes_beginDay C hv zK) _ _ _ hf)
abbrev rm_Homes_isQuiet : Room := { frames := 1, cells := 0, slots := 0, locals := 21 }
theorem d_Homes_isQuiet_0 : decode b_Homes_isQuiet 0 = .ok (.aload_n 0, 1) := by decide +kernel
theorem d_Homes_isQuiet_1 : decode b_Homes_isQuiet 1 = .ok (.getfield 36, 3) := by decide +kernel
theorem d_Homes_isQuiet_4 : decode b_Homes_isQuiet 4 = .ok (.iload_n 1, 1) := by decide +kernel
theorem d_Homes_isQuiet_5 : decode b_Homes_isQuiet 5 = .ok (.invokevirtual 66, 3) := by decide +kernel
theorem d_Homes_isQuiet_8 : decode b_Homes_isQuiet 8 = .ok (.istore_n 3, 1) := by decide +kernel
theorem d_Homes_isQuiet_9 : decode b_Homes_isQuiet 9 = .ok (.aload_n 0, 1) := by decide +kernel
theorem d_Homes_isQuiet_10 : decode b_Homes_isQuiet 10 = .ok (.getfield 39, 3) := by decide +kernel
theorem d_Homes_isQuiet_13 : decode b_Homes_isQuiet 13 = .ok (.iload_n 1, 1) := by decide +kernel
theorem d_Homes_isQuiet_14 : decode b_Homes_isQuiet 14 = .ok (.invokevirtual 66, 3) := by decide +kernel
theorem d_Homes_isQuiet_17 : decode b_Homes_isQuiet 17 = .ok (.istore 4, 2) := by decide +kernel
theorem d_Homes_isQuiet_19 : decode b_Homes_isQuiet 19 = .ok (.iload_n 3, 1) := by decide +kernel
theorem d_Homes_isQuiet_20 : decode b_Homes_isQuiet 20 = .ok (.iconst (-1), 1) := by decide +kernel
theorem d_Homes_isQuiet_21 : decode b_Homes_isQuiet 21 = .ok (.if_icmp .ne 5, 3) := by decide +kernel
theorem d_Homes_isQuiet_24 : decode b_Homes_isQuiet 24 = .ok (.iconst 0, 1) := by decide +kernel
theorem d_Homes_isQuiet_25 : decode b_Homes_isQuiet 25 = .ok (.ireturn, 1) := by decide +kernel
theorem d_Homes_isQuiet_26 : decode b_Homes_isQuiet 26 = .ok (.iload_n 3, 1) := by decide +kernel
theorem d_Homes_isQuiet_27 : decode b_Homes_isQuiet 27 = .ok (.iload 4, 2) := by decide +kernel
theorem d_Homes_isQuiet_29 : decode b_Homes_isQuiet 29 = .ok (.if_icmp .gt 22, 3) := by decide +kernel
theorem d_Homes_isQuiet_32 : decode b_Homes_isQuiet 32 = .ok (.iload_n 2, 1) := by decide +kernel
theorem d_Homes_isQuiet_33 : decode b_Homes_isQuiet 33 = .ok (.iload_n 3, 1) := by decide +kernel
theorem d_Homes_isQuiet_34 : decode b_Homes_isQuiet 34 = .ok (.if_icmp .lt 13, 3) := by decide +kernel
theorem d_Homes_isQuiet_37 : decode b_Homes_isQuiet 37 = .ok (.iload_n 2, 1) := by decide +kernel
theorem d_Homes_isQuiet_38 : decode b_Homes_isQuiet 38 = .ok (.iload 4, 2) := by decide +kernel
theorem d_Homes_isQuiet_40 : decode b_Homes_isQuiet 40 = .ok (.if_icmp .gt 7, 3) := by decide +kernel
theorem d_Homes_isQuiet_43 : decode b_Homes_isQuiet 43 = .ok (.iconst 1, 1) := by decide +kernel
theorem d_Homes_isQuiet_44 : decode b_Homes_isQuiet 44 = .ok (.goto 23, 3) := by decide +kernel
theorem d_Homes_isQuiet_47 : decode b_Homes_isQuiet 47 = .ok (.iconst 0, 1) := by decide +kernel
theorem d_Homes_isQuiet_48 : decode b_Homes_isQuiet 48 = .ok (.goto 19, 3) := by decide +kernel
theorem d_Homes_isQuiet_51 : decode b_Homes_isQuiet 51 = .ok (.iload_n 2, 1) := by decide +kernel
theorem d_Homes_isQuiet_52 : decode b_Homes_isQuiet 52 = .ok (.iload_n 3, 1) := by decide +kernel
theorem d_Homes_isQuiet_53 : decode b_Homes_isQuiet 53 = .ok (.if_icmp .ge 9, 3) := by decide +kernel
theorem d_Homes_isQuiet_56 : decode b_Homes_isQuiet 56 = .ok (.iload_n 2, 1) := by decide +kernel
theorem d_Homes_isQuiet_57 : decode b_Homes_isQuiet 57 = .ok (.iload 4, 2) := by decide +kernel
theorem d_Homes_isQuiet_59 : decode b_Homes_isQuiet 59 = .ok (.if_icmp .gt 7, 3) := by decide +kernel
theorem d_Homes_isQuiet_62 : decode b_Homes_isQuiet 62 = .ok (.iconst 1, 1) := by decide +kernel
theorem d_Homes_isQuiet_63 : decode b_Homes_isQuiet 63 = .ok (.goto 4, 3) := by decide +kernel
theorem d_Homes_isQuiet_66 : decode b_Homes_isQuiet 66 = .ok (.iconst 0, 1) := by decide +kernel
theorem d_Homes_isQuiet_67 : decode b_Homes_isQuiet 67 = .ok (.ireturn, 1) := by decide +kernel
def F_Homes_isQuiet (v : Nat) (a0 : Int32) (a1 : Int32) (σ : zSt) : Option (Int32) :=
  (F_Row_get v 14 a0 σ).bind fun r2 => (F_Row_get v 16 a0 σ).bind fun r4 => if r2 = (-1 : Int32) then some (0 : Int32) else (if r4 < r2 then (if r2 ≤ a1 then some (1 : Int32) else (if r4 < a1 then some (0 : Int32) else some (1 : Int32))) else (if a1 < r2 then some (0 : Int32) else (if r4 < a1 then some (0 : Int32) else some (1 : Int32))))
set_option maxHeartbeats 4000000 in
set_option maxRecDepth 100000 in
theorem c_Homes_isQuiet {l : Launch} {G : zLA} {v : Nat} (hv : zvl G v) {a0 : Int32} {a1 : Int32} {σ : zSt} {r : Int32} (hf : F_Homes_isQuiet v a0 a1 σ = some r) : zM l G y_Homes_isQuiet (zws y_Homes_isQuiet b_Homes_isQuiet 5 (some .boolean)) rm_Homes_isQuiet [.ref (zad G v 3), .int a0, .int a1] σ (some (.int r)) σ := by
  refine z_ofM (own := "VillageWaves$Homes") (lv := [(0, .ref (zad G v 3)), (1, .int a0), (2, .int a1)]) (by decide +kernel) rfl rfl (Nat.le_of_ble_eq_true rfl) (fun p e s m args below meth c C => ?_)
  rw [F_Homes_isQuiet] at hf
  refine z_aload_n C d_Homes_isQuiet_0 0 rfl rfl ?_
  refine gf_Homes_36 C (zlv hv 3 rfl) rfl rfl d_Homes_isQuiet_1 ?_
  refine z_iload_n C d_Homes_isQuiet_4 1 rfl rfl ?_
  obtain ⟨r2, h1, hf⟩ := bd_s hf
  refine z_cVi C kl_Homes_66 rfl (c_Row_get (zrow_v hv 14 rfl) h1) (zlv hv 14 rfl) rfl rfl rfl (Nat.le_of_ble_eq_true rfl) ⟨(Nat.le_of_ble_eq_true rfl), (Nat.le_of_ble_eq_true rfl)⟩ ⟨(Nat.le_of_ble_eq_true rfl), (Nat.le_of_ble_eq_true rfl)⟩ d_Homes_isQuiet_5 ?_
  refine z_istore_n C d_Homes_isQuiet_8 rfl (by decide) ?_
  refine z_aload_n C d_Homes_isQuiet_9 1 rfl rfl ?_
  refine gf_Homes_39 C (zlv hv 3 rfl) rfl rfl d_Homes_isQuiet_10 ?_
  refine z_iload_n C d_Homes_isQuiet_13 2 rfl rfl ?_
  obtain ⟨r4, h3, hf⟩ := bd_s hf
  refine z_cVi C kl_Homes_66 rfl (c_Row_get (zrow_v hv 16 rfl) h3) (zlv hv 16 rfl) rfl rfl rfl (Nat.le_of_ble_eq_true rfl) ⟨(Nat.le_of_ble_eq_true rfl), (Nat.le_of_ble_eq_true rfl)⟩ ⟨(Nat.le_of_ble_eq_true rfl), (Nat.le_of_ble_eq_true rfl)⟩ d_Homes_isQuiet_14 ?_
  refine z_istore C d_Homes_isQuiet_17 (by decide) ?_
  refine z_iload_n C d_Homes_isQuiet_19 1 rfl rfl ?_
  refine z_iconst C d_Homes_isQuiet_20 zki_m1 ?_
  refine z_icmp_ne (tgt := 26) C d_Homes_isQuiet_21 rfl (fun h10 => ?_) (fun h10 => ?_)
  · have hf := iff_f hf h10
    refine z_iload_n C d_Homes_isQuiet_26 1 rfl rfl ?_
    refine z_iload C d_Homes_isQuiet_27 0 rfl ?_
    refine z_icmp_gt (tgt := 51) C d_Homes_isQuiet_29 rfl (fun h9 => ?_) (fun h9 => ?_)
    · have hf := iff_t hf h9
      refine z_iload_n C d_Homes_isQuiet_51 4 rfl rfl ?_
      refine z_iload_n C d_Homes_isQuiet_52 1 rfl rfl ?_
      refine z_icmp_ge (tgt := 62) C d_Homes_isQuiet_53 rfl (fun h6 => ?_) (fun h6 => ?_)
      · have hf := iff_t hf h6
        refine z_iconst C d_Homes_isQuiet_62 zki_1 ?_
        refine z_goto (tgt := 67) C d_Homes_isQuiet_63 rfl ?_
        cases hf
        exact z_zret C rfl rfl (Nat.le_of_ble_eq_true rfl) (Nat.le_of_ble_eq_true rfl) d_Homes_isQuiet_67
      · have hf := iff_f hf h6
        refine z_iload_n C d_Homes_isQuiet_56 4 rfl rfl ?_
        refine z_iload C d_Homes_isQuiet_57 0 rfl ?_
        refine z_icmp_gt (tgt := 66) C d_Homes_isQuiet_59 rfl (fun h5 => ?_) (fun h5 => ?_)
        · have hf := iff_t hf h5
          refine z_iconst C d_Homes_isQuiet_66 zki_0 ?_
          cases hf
          exact z_zret C rfl rfl (Nat.le_of_ble_eq_true rfl) (Nat.le_of_ble_eq_true rfl) d_Homes_isQuiet_67
        · have hf := iff_f hf h5
          refine z_iconst C d_Homes_isQuiet_62 zki_1 ?_
          refine z_goto (tgt := 67) C d_Homes_isQuiet_63 rfl ?_
          cases hf
          exact z_zret C rfl rfl (Nat.le_of_ble_eq_true rfl) (Nat.le_of_ble_eq_true rfl) d_Homes_isQuiet_67
    · have hf := iff_f hf h9
      refine z_iload_n C d_Homes_isQuiet_32 4 rfl rfl ?_
      refine z_iload_n C d_Homes_isQuiet_33 1 rfl rfl ?_
      refine z_icmp_lt (tgt := 47) C d_Homes_isQuiet_34 rfl (fun h8 => ?_) (fun h8 => ?_)
      · have hf := iff_t hf h8
        refine z_iconst C d_Homes_isQuiet_47 zki_0 ?_
        refine z_goto (tgt := 67) C d_Homes_isQuiet_48 rfl ?_
        cases hf
        exact z_zret C rfl rfl (Nat.le_of_ble_eq_true rfl) (Nat.le_of_ble_eq_true rfl) d_Homes_isQuiet_67
      · have hf := iff_f hf h8
        refine z_iload_n C d_Homes_isQuiet_37 4 rfl rfl ?_
        refine z_iload C d_Homes_isQuiet_38 0 rfl ?_
        refine z_icmp_gt (tgt := 47) C d_Homes_isQuiet_40 rfl (fun h7 => ?_) (fun h7 => ?_)
        · have hf := iff_t hf h7
          refine z_iconst C d_Homes_isQuiet_47 zki_0 ?_
          refine z_goto (tgt := 67) C d_Homes_isQuiet_48 rfl ?_
          cases hf
          exact z_zret C rfl rfl (Nat.le_of_ble_eq_true rfl) (Nat.le_of_ble_eq_true rfl) d_Homes_isQuiet_67
        · have hf := iff_f hf h7
          refine z_iconst C d_Homes_isQuiet_43 zki_1 ?_
          refine z_goto (tgt := 67) C d_Homes_isQuiet_44 rfl ?_
          cases hf
          exact z_zret C rfl rfl (Nat.le_of_ble_eq_true rfl) (Nat.le_of_ble_eq_true rfl) d_Homes_isQuiet_67
  · have hf := iff_t hf h10
    refine z_iconst C d_Homes_isQuiet_24 zki_0 ?_
    cases hf
    exact z_zret C rfl rfl (Nat.le_of_ble_eq_true rfl) (Nat.le_of_ble_eq_true rfl) d_Homes_isQuiet_25
abbrev rm_Homes_quietAt : Room := { frames := 2, cells := 0, slots := 0, locals := 45 }
theorem d_Homes_quietAt_0 : decode b_Homes_quietAt 0 = .ok (.iconst 0, 1) := by decide +kernel
theorem d_Homes_quietAt_1 : decode b_Homes_quietAt 1 = .ok (.istore_n 2, 1) := by decide +kernel
theorem d_Homes_quietAt_2 : decode b_Homes_quietAt 2 = .ok (.iconst 0, 1) := by decide +kernel
theorem d_Homes_quietAt_3 : decode b_Homes_quietAt 3 = .ok (.istore_n 3, 1) := by decide +kernel
theorem d_Homes_quietAt_4 : decode b_Homes_quietAt 4 = .ok (.iload_n 3, 1) := by decide +kernel
theorem d_Homes_quietAt_5 : decode b_Homes_quietAt 5 = .ok (.aload_n 0, 1) := by decide +kernel
theorem d_Homes_quietAt_6 : decode b_Homes_quietAt 6 = .ok (.getfield 9, 3) := by decide +kernel
theorem d_Homes_quietAt_9 : decode b_Homes_quietAt 9 = .ok (.if_icmp .ge 25, 3) := by decide +kernel
theorem d_Homes_quietAt_12 : decode b_Homes_quietAt 12 = .ok (.aload_n 0, 1) := by decide +kernel
theorem d_Homes_quietAt_13 : decode b_Homes_quietAt 13 = .ok (.iload_n 3, 1) := by decide +kernel
theorem d_Homes_quietAt_14 : decode b_Homes_quietAt 14 = .ok (.iload_n 1, 1) := by decide +kernel
theorem d_Homes_quietAt_15 : decode b_Homes_quietAt 15 = .ok (.invokevirtual 84, 3) := by decide +kernel
theorem d_Homes_quietAt_18 : decode b_Homes_quietAt 18 = .ok (.ifCond .eq 10, 3) := by decide +kernel
theorem d_Homes_quietAt_21 : decode b_Homes_quietAt 21 = .ok (.iload_n 2, 1) := by decide +kernel
theorem d_Homes_quietAt_22 : decode b_Homes_quietAt 22 = .ok (.iload_n 3, 1) := by decide +kernel
theorem d_Homes_quietAt_23 : decode b_Homes_quietAt 23 = .ok (.invokestatic 88, 3) := by decide +kernel
theorem d_Homes_quietAt_26 : decode b_Homes_quietAt 26 = .ok (.ior, 1) := by decide +kernel
theorem d_Homes_quietAt_27 : decode b_Homes_quietAt 27 = .ok (.istore_n 2, 1) := by decide +kernel
theorem d_Homes_quietAt_28 : decode b_Homes_quietAt 28 = .ok (.iinc 3 1, 3) := by decide +kernel
theorem d_Homes_quietAt_31 : decode b_Homes_quietAt 31 = .ok (.goto (-27), 3) := by decide +kernel
theorem d_Homes_quietAt_34 : decode b_Homes_quietAt 34 = .ok (.iload_n 2, 1) := by decide +kernel
theorem d_Homes_quietAt_35 : decode b_Homes_quietAt 35 = .ok (.ireturn, 1) := by decide +kernel
def L_Homes_quietAt (v : Nat) (σ : zSt) : Nat → Nat → Int32 → Int32 → Int32 → Option (Int32)
  | 0, _, _, _, _ => none
  | n + 1, 0, x1, x2, x3 => if (σ.1 v 3 0) ≤ x3 then some x2 else ((F_Homes_isQuiet v x3 x1 σ).bind fun r2 => if r2 = 0 then L_Homes_quietAt v σ n 0 x1 x2 (x3 + (1 : Int32)) else ((F_Waves_bit x3 σ).bind fun r4 => L_Homes_quietAt v σ n 0 x1 (x2 ||| r4) (x3 + (1 : Int32))))
  | _ + 1, _, _, _, _ => none
theorem e_Homes_quietAt_0 (v : Nat) (σ : zSt) (n : Nat) (x1 : Int32) (x2 : Int32) (x3 : Int32) : L_Homes_quietAt v σ (n + 1) 0 x1 x2 x3 = (if (σ.1 v 3 0) ≤ x3 then some x2 else ((F_Homes_isQuiet v x3 x1 σ).bind fun r2 => if r2 = 0 then L_Homes_quietAt v σ n 0 x1 x2 (x3 + (1 : Int32)) else ((F_Waves_bit x3 σ).bind fun r4 => L_Homes_quietAt v σ n 0 x1 (x2 ||| r4) (x3 + (1 : Int32))))) := rfl
set_option maxHeartbeats 4000000 in
set_option maxRecDepth 100000 in
theorem w_Homes_quietAt {l : Launch} {G : zLA} {p : Program} {e : Env} {s : State} {m : MethodId} {args : Array Value} {below : List Frame} {meth : Method} {c : Code} (C : zCx G p s m args meth c "VillageWaves$Homes" b_Homes_quietAt 4 (some .int)) {v : Nat} (hv : zvl G v) {σ : zSt} {r : Int32} : ∀ n : Nat, (∀ (x1 : Int32) (x2 : Int32) (x3 : Int32), L_Homes_quietAt v σ n 0 x1 x2 x3 = some r → zWV G p l e rm_Homes_quietAt s m args below meth c 4 0 0 (zQ G below args s rm_Homes_quietAt (some (.int r)) σ) 4 [(0, .ref (zad G v 3)), (1, .int x1), (2, .int x2), (3, .int x3)] [] σ) := by
  intro n
  induction n with
  | zero => exact fun _ _ _ hf => (by cases hf)
  | succ n ih =>
    refine ?_
    · intro x1 x2 x3 hf
      rw [e_Homes_quietAt_0] at hf
      refine z_iload_n C d_Homes_quietAt_4 3 rfl rfl ?_
      refine z_aload_n C d_Homes_quietAt_5 0 rfl rfl ?_
      refine gf_Homes_9 C (zlv hv 3 rfl) rfl rfl d_Homes_quietAt_6 ?_
      refine z_icmp_ge (tgt := 34) C d_Homes_quietAt_9 rfl (fun h6 => ?_) (fun h6 => ?_)
      · have hf := iff_t hf h6
        refine z_iload_n C d_Homes_quietAt_34 2 rfl rfl ?_
        cases hf
        exact z_iret C rfl (Nat.le_of_ble_eq_true rfl) (Nat.le_of_ble_eq_true rfl) d_Homes_quietAt_35
      · have hf := iff_f hf h6
        refine z_aload_n C d_Homes_quietAt_12 0 rfl rfl ?_
        refine z_iload_n C d_Homes_quietAt_13 3 rfl rfl ?_
        refine z_iload_n C d_Homes_quietAt_14 1 rfl rfl ?_
        obtain ⟨r2, h1, hf⟩ := bd_s hf
        refine z_cVi C kl_Homes_84 rfl (c_Homes_isQuiet hv h1) (zlv hv 3 rfl) rfl rfl rfl (Nat.le_of_ble_eq_true rfl) ⟨(Nat.le_of_ble_eq_true rfl), (Nat.le_of_ble_eq_true rfl)⟩ ⟨(Nat.le_of_ble_eq_true rfl), (Nat.le_of_ble_eq_true rfl)⟩ d_Homes_quietAt_15 ?_
        refine z_if_eq (tgt := 28) C d_Homes_quietAt_18 rfl (fun h5 => ?_) (fun h5 => ?_)
        · have hf := iff_t hf h5
          refine z_iinc C d_Homes_quietAt_28 3 rfl zki_1 (by decide) ?_
          refine z_goto (tgt := 4) C d_Homes_quietAt_31 rfl ?_
          exact z_sub [1, 2, 3, 0] rfl (ih _ _ _ hf)
        · have hf := iff_f hf h5
          refine z_iload_n C d_Homes_quietAt_21 2 rfl rfl ?_
          refine z_iload_n C d_Homes_quietAt_22 3 rfl rfl ?_
          obtain ⟨r4, h3, hf⟩ := bd_s hf
          refine z_cSNi C kl_Homes_88 (c_Waves_bit h3) rfl rfl (Nat.le_of_ble_eq_true rfl) ⟨(Nat.le_of_ble_eq_true rfl), (Nat.le_of_ble_eq_true rfl)⟩ ⟨(Nat.le_of_ble_eq_true rfl), (Nat.le_of_ble_eq_true rfl)⟩ d_Homes_quietAt_23 ?_
          refine z_ior C d_Homes_quietAt_26 ?_
          refine z_istore_n C d_Homes_quietAt_27 rfl (by decide) ?_
          refine z_iinc C d_Homes_quietAt_28 3 rfl zki_1 (by decide) ?_
          refine z_goto (tgt := 4) C d_Homes_quietAt_31 rfl ?_
          exact z_sub [2, 3, 1, 0] rfl (ih _ _ _ hf)
def F_Homes_quietAt (v : Nat) (a0 : Int32) (σ : zSt) : Option (Int32) :=
  L_Homes_quietAt v σ zK 0 a0 (0 : Int32) (0 : Int32)
set_option maxHeartbeats 4000000 in
set_option maxRecDepth 100000 in
theorem c_Homes_quietAt {l : Launch} {G : zLA} {v : Nat} (hv : zvl G v) {a0 : Int32} {σ : zSt} {r : Int32} (hf : F_Homes_quietAt v a0 σ = some r) : zM l G y_Homes_quietAt (zws y_Homes_quietAt b_Homes_quietAt 4 (some .int)) rm_Homes_quietAt [.ref (zad G v 3), .int a0] σ (some (.int r)) σ := by
  refine z_ofM (own := "VillageWaves$Homes") (lv := [(0, .ref (zad G v 3)), (1, .int a0)]) (by decide +kernel) rfl rfl (Nat.le_of_ble_eq_true rfl) (fun p e s m args below meth c C => ?_)
  rw [F_Homes_quietAt] at hf
  refine z_iconst C d_Homes_quietAt_0 zki_0 ?_
  refine z_istore_n C d_Homes_quietAt_1 rfl (by decide) ?_
  refine z_iconst C d_Homes_quietAt_2 zki_0 ?_
  refine z_istore_n C d_Homes_quietAt_3 rfl (by decide) ?_
  exact z_sub [2, 3, 1, 0] rfl ((w_Homes_quietAt C hv zK) _ _ _ hf)
abbrev rm_Homes_sharesOf : Room := { frames := 1, cells := 0, slots := 0, locals := 21 }
theorem d_Homes_sharesOf_0 : decode b_Homes_sharesOf 0 = .ok (.iconst 0, 1) := by decide +kernel
theorem d_Homes_sharesOf_1 : decode b_Homes_sharesOf 1 = .ok (.istore_n 2, 1) := by decide +kernel
theorem d_Homes_sharesOf_2 : decode b_Homes_sharesOf 2 = .ok (.iconst 0, 1) := by decide +kernel
theorem d_Homes_sharesOf_3 : decode b_Homes_sharesOf 3 = .ok (.istore_n 3, 1) := by decide +kernel
theorem d_Homes_sharesOf_4 : decode b_Homes_sharesOf 4 = .ok (.iload_n 3, 1) := by decide +kernel
theorem d_Homes_sharesOf_5 : decode b_Homes_sharesOf 5 = .ok (.aload_n 0, 1) := by decide +kernel
theorem d_Homes_sharesOf_6 : decode b_Homes_sharesOf 6 = .ok (.getfield 9, 3) := by decide +kernel
theorem d_Homes_sharesOf_9 : decode b_Homes_sharesOf 9 = .ok (.if_icmp .ge 28, 3) := by decide +kernel
theorem d_Homes_sharesOf_12 : decode b_Homes_sharesOf 12 = .ok (.iload_n 1, 1) := by decide +kernel
theorem d_Homes_sharesOf_13 : decode b_Homes_sharesOf 13 = .ok (.iload_n 3, 1) := by decide +kernel
theorem d_Homes_sharesOf_14 : decode b_Homes_sharesOf 14 = .ok (.invokestatic 91, 3) := by decide +kernel
theorem d_Homes_sharesOf_17 : decode b_Homes_sharesOf 17 = .ok (.ifCond .eq 14, 3) := by decide +kernel
theorem d_Homes_sharesOf_20 : decode b_Homes_sharesOf 20 = .ok (.iload_n 2, 1) := by decide +kernel
theorem d_Homes_sharesOf_21 : decode b_Homes_sharesOf 21 = .ok (.aload_n 0, 1) := by decide +kernel
theorem d_Homes_sharesOf_22 : decode b_Homes_sharesOf 22 = .ok (.getfield 33, 3) := by decide +kernel
theorem d_Homes_sharesOf_25 : decode b_Homes_sharesOf 25 = .ok (.iload_n 3, 1) := by decide +kernel
theorem d_Homes_sharesOf_26 : decode b_Homes_sharesOf 26 = .ok (.invokevirtual 66, 3) := by decide +kernel
theorem d_Homes_sharesOf_29 : decode b_Homes_sharesOf 29 = .ok (.iadd, 1) := by decide +kernel
theorem d_Homes_sharesOf_30 : decode b_Homes_sharesOf 30 = .ok (.istore_n 2, 1) := by decide +kernel
theorem d_Homes_sharesOf_31 : decode b_Homes_sharesOf 31 = .ok (.iinc 3 1, 3) := by decide +kernel
theorem d_Homes_sharesOf_34 : decode b_Homes_sharesOf 34 = .ok (.goto (-30), 3) := by decide +kernel
theorem d_Homes_sharesOf_37 : decode b_Homes_sharesOf 37 = .ok (.iload_n 2, 1) := by decide +kernel
theorem d_Homes_sharesOf_38 : decode b_Homes_sharesOf 38 = .ok (.ireturn, 1) := by decide +kernel
def L_Homes_sharesOf (v : Nat) (σ : zSt) : Nat → Nat → Int32 → Int32 → Int32 → Option (Int32)
  | 0, _, _, _, _ => none
  | n + 1, 0, x1, x2, x3 => if (σ.1 v 3 0) ≤ x3 then some x2 else ((F_Waves_contains x1 x3 σ).bind fun r2 => if r2 = 0 then L_Homes_sharesOf v σ n 0 x1 x2 (x3 + (1 : Int32)) else ((F_Row_get v 12 x3 σ).bind fun r4 => L_Homes_sharesOf v σ n 0 x1 (x2 + r4) (x3 + (1 : Int32))))
  | _ + 1, _, _, _, _ => none
theorem e_Homes_sharesOf_0 (v : Nat) (σ : zSt) (n : Nat) (x1 : Int32) (x2 : Int32) (x3 : Int32) : L_Homes_sharesOf v σ (n + 1) 0 x1 x2 x3 = (if (σ.1 v 3 0) ≤ x3 then some x2 else ((F_Waves_contains x1 x3 σ).bind fun r2 => if r2 = 0 then L_Homes_sharesOf v σ n 0 x1 x2 (x3 + (1 : Int32)) else ((F_Row_get v 12 x3 σ).bind fun r4 => L_Homes_sharesOf v σ n 0 x1 (x2 + r4) (x3 + (1 : Int32))))) := rfl
set_option maxHeartbeats 4000000 in
set_option maxRecDepth 100000 in
theorem w_Homes_sharesOf {l : Launch} {G : zLA} {p : Program} {e : Env} {s : State} {m : MethodId} {args : Array Value} {below : List Frame} {meth : Method} {c : Code} (C : zCx G p s m args meth c "VillageWaves$Homes" b_Homes_sharesOf 4 (some .int)) {v : Nat} (hv : zvl G v) {σ : zSt} {r : Int32} : ∀ n : Nat, (∀ (x1 : Int32) (x2 : Int32) (x3 : Int32), L_Homes_sharesOf v σ n 0 x1 x2 x3 = some r → zWV G p l e rm_Homes_sharesOf s m args below meth c 4 0 0 (zQ G below args s rm_Homes_sharesOf (some (.int r)) σ) 4 [(0, .ref (zad G v 3)), (1, .int x1), (2, .int x2), (3, .int x3)] [] σ) := by
  intro n
  induction n with
  | zero => exact fun _ _ _ hf => (by cases hf)
  | succ n ih =>
    refine ?_
    · intro x1 x2 x3 hf
      rw [e_Homes_sharesOf_0] at hf
      refine z_iload_n C d_Homes_sharesOf_4 3 rfl rfl ?_
      refine z_aload_n C d_Homes_sharesOf_5 0 rfl rfl ?_
      refine gf_Homes_9 C (zlv hv 3 rfl) rfl rfl d_Homes_sharesOf_6 ?_
      refine z_icmp_ge (tgt := 37) C d_Homes_sharesOf_9 rfl (fun h6 => ?_) (fun h6 => ?_)
      · have hf := iff_t hf h6
        refine z_iload_n C d_Homes_sharesOf_37 2 rfl rfl ?_
        cases hf
        exact z_iret C rfl (Nat.le_of_ble_eq_true rfl) (Nat.le_of_ble_eq_true rfl) d_Homes_sharesOf_38
      · have hf := iff_f hf h6
        refine z_iload_n C d_Homes_sharesOf_12 1 rfl rfl ?_
        refine z_iload_n C d_Homes_sharesOf_13 3 rfl rfl ?_
        obtain ⟨r2, h1, hf⟩ := bd_s hf
        refine z_cSNi C kl_Homes_91 (c_Waves_contains h1) rfl rfl (Nat.le_of_ble_eq_true rfl) ⟨(Nat.le_of_ble_eq_true rfl), (Nat.le_of_ble_eq_true rfl)⟩ ⟨(Nat.le_of_ble_eq_true rfl), (Nat.le_of_ble_eq_true rfl)⟩ d_Homes_sharesOf_14 ?_
        refine z_if_eq (tgt := 31) C d_Homes_sharesOf_17 rfl (fun h5 => ?_) (fun h5 => ?_)
        · have hf := iff_t hf h5
          refine z_iinc C d_Homes_sharesOf_31 3 rfl zki_1 (by decide) ?_
          refine z_goto (tgt := 4) C d_Homes_sharesOf_34 rfl ?_
          exact z_sub [1, 2, 3, 0] rfl (ih _ _ _ hf)
        · have hf := iff_f hf h5
          refine z_iload_n C d_Homes_sharesOf_20 2 rfl rfl ?_
          refine z_aload_n C d_Homes_sharesOf_21 0 rfl rfl ?_
          refine gf_Homes_33 C (zlv hv 3 rfl) rfl rfl d_Homes_sharesOf_22 ?_
          refine z_iload_n C d_Homes_sharesOf_25 3 rfl rfl ?_
          obtain ⟨r4, h3, hf⟩ := bd_s hf
          refine z_cVi C kl_Homes_66 rfl (c_Row_get (zrow_v hv 12 rfl) h3) (zlv hv 12 rfl) rfl rfl rfl (Nat.le_of_ble_eq_true rfl) ⟨(Nat.le_of_ble_eq_true rfl), (Nat.le_of_ble_eq_true rfl)⟩ ⟨(Nat.le_of_ble_eq_true rfl), (Nat.le_of_ble_eq_true rfl)⟩ d_Homes_sharesOf_26 ?_
          refine z_iadd C d_Homes_sharesOf_29 ?_
          refine z_istore_n C d_Homes_sharesOf_30 rfl (by decide) ?_
          refine z_iinc C d_Homes_sharesOf_31 3 rfl zki_1 (by decide) ?_
          refine z_goto (tgt := 4) C d_Homes_sharesOf_34 rfl ?_
          exact z_sub [2, 3, 1, 0] rfl (ih _ _ _ hf)
def F_Homes_sharesOf (v : Nat) (a0 : Int32) (σ : zSt) : Option (Int32) :=
  L_Homes_sharesOf v σ zK 0 a0 (0 : Int32) (0 : Int32)
set_option maxHeartbeats 4000000 in
set_option maxRecDepth 100000 in
theorem c_Homes_sharesOf {l : Launch} {G : zLA} {v : Nat} (hv : zvl G v) {a0 : Int32} {σ : zSt} {r : Int32} (hf : F_Homes_sharesOf v a0 σ = some r) : zM l G y_Homes_sharesOf (zws y_Homes_sharesOf b_Homes_sharesOf 4 (some .int)) rm_Homes_sharesOf [.ref (zad G v 3), .int a0] σ (some (.int r)) σ := by
  refine z_ofM (own := "VillageWaves$Homes") (lv := [(0, .ref (zad G v 3)), (1, .int a0)]) (by decide +kernel) rfl rfl (Nat.le_of_ble_eq_true rfl) (fun p e s m args below meth c C => ?_)
  rw [F_Homes_sharesOf] at hf
  refine z_iconst C d_Homes_sharesOf_0 zki_0 ?_
  refine z_istore_n C d_Homes_sharesOf_1 rfl (by decide) ?_
  refine z_iconst C d_Homes_sharesOf_2 zki_0 ?_
  refine z_istore_n C d_Homes_sharesOf_3 rfl (by decide) ?_
  exact z_sub [2, 3, 1, 0] rfl ((w_Homes_sharesOf C hv zK) _ _ _ hf)
