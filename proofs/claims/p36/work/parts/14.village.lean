abbrev rm_Village_clear : Room := { frames := 3, cells := 0, slots := 0, locals := 64 }
theorem d_Village_clear_0 : decode b_Village_clear 0 = .ok (.aload_n 0, 1) := by decide +kernel
theorem d_Village_clear_1 : decode b_Village_clear 1 = .ok (.bipush 48, 2) := by decide +kernel
theorem d_Village_clear_3 : decode b_Village_clear 3 = .ok (.putfield 9, 3) := by decide +kernel
theorem d_Village_clear_6 : decode b_Village_clear 6 = .ok (.aload_n 0, 1) := by decide +kernel
theorem d_Village_clear_7 : decode b_Village_clear 7 = .ok (.iconst 0, 1) := by decide +kernel
theorem d_Village_clear_8 : decode b_Village_clear 8 = .ok (.putfield 15, 3) := by decide +kernel
theorem d_Village_clear_11 : decode b_Village_clear 11 = .ok (.aload_n 0, 1) := by decide +kernel
theorem d_Village_clear_12 : decode b_Village_clear 12 = .ok (.iconst 1, 1) := by decide +kernel
theorem d_Village_clear_13 : decode b_Village_clear 13 = .ok (.putfield 18, 3) := by decide +kernel
theorem d_Village_clear_16 : decode b_Village_clear 16 = .ok (.aload_n 0, 1) := by decide +kernel
theorem d_Village_clear_17 : decode b_Village_clear 17 = .ok (.iconst 0, 1) := by decide +kernel
theorem d_Village_clear_18 : decode b_Village_clear 18 = .ok (.putfield 21, 3) := by decide +kernel
theorem d_Village_clear_21 : decode b_Village_clear 21 = .ok (.iconst 0, 1) := by decide +kernel
theorem d_Village_clear_22 : decode b_Village_clear 22 = .ok (.istore_n 1, 1) := by decide +kernel
theorem d_Village_clear_23 : decode b_Village_clear 23 = .ok (.iload_n 1, 1) := by decide +kernel
theorem d_Village_clear_24 : decode b_Village_clear 24 = .ok (.iconst 5, 1) := by decide +kernel
theorem d_Village_clear_25 : decode b_Village_clear 25 = .ok (.if_icmp .ge 24, 3) := by decide +kernel
theorem d_Village_clear_28 : decode b_Village_clear 28 = .ok (.aload_n 0, 1) := by decide +kernel
theorem d_Village_clear_29 : decode b_Village_clear 29 = .ok (.getfield 29, 3) := by decide +kernel
theorem d_Village_clear_32 : decode b_Village_clear 32 = .ok (.iload_n 1, 1) := by decide +kernel
theorem d_Village_clear_33 : decode b_Village_clear 33 = .ok (.getstatic 76, 3) := by decide +kernel
theorem d_Village_clear_36 : decode b_Village_clear 36 = .ok (.iload_n 1, 1) := by decide +kernel
theorem d_Village_clear_37 : decode b_Village_clear 37 = .ok (.invokestatic 80, 3) := by decide +kernel
theorem d_Village_clear_40 : decode b_Village_clear 40 = .ok (.invokevirtual 84, 3) := by decide +kernel
theorem d_Village_clear_43 : decode b_Village_clear 43 = .ok (.iinc 1 1, 3) := by decide +kernel
theorem d_Village_clear_46 : decode b_Village_clear 46 = .ok (.goto (-23), 3) := by decide +kernel
theorem d_Village_clear_49 : decode b_Village_clear 49 = .ok (.aload_n 0, 1) := by decide +kernel
theorem d_Village_clear_50 : decode b_Village_clear 50 = .ok (.getfield 36, 3) := by decide +kernel
theorem d_Village_clear_53 : decode b_Village_clear 53 = .ok (.invokevirtual 88, 3) := by decide +kernel
theorem d_Village_clear_56 : decode b_Village_clear 56 = .ok (.aload_n 0, 1) := by decide +kernel
theorem d_Village_clear_57 : decode b_Village_clear 57 = .ok (.getfield 43, 3) := by decide +kernel
theorem d_Village_clear_60 : decode b_Village_clear 60 = .ok (.invokevirtual 89, 3) := by decide +kernel
theorem d_Village_clear_63 : decode b_Village_clear 63 = .ok (.aload_n 0, 1) := by decide +kernel
theorem d_Village_clear_64 : decode b_Village_clear 64 = .ok (.getfield 50, 3) := by decide +kernel
theorem d_Village_clear_67 : decode b_Village_clear 67 = .ok (.invokevirtual 90, 3) := by decide +kernel
theorem d_Village_clear_70 : decode b_Village_clear 70 = .ok (.aload_n 0, 1) := by decide +kernel
theorem d_Village_clear_71 : decode b_Village_clear 71 = .ok (.getfield 54, 3) := by decide +kernel
theorem d_Village_clear_74 : decode b_Village_clear 74 = .ok (.invokevirtual 90, 3) := by decide +kernel
theorem d_Village_clear_77 : decode b_Village_clear 77 = .ok (.aload_n 0, 1) := by decide +kernel
theorem d_Village_clear_78 : decode b_Village_clear 78 = .ok (.getfield 69, 3) := by decide +kernel
theorem d_Village_clear_81 : decode b_Village_clear 81 = .ok (.invokevirtual 91, 3) := by decide +kernel
theorem d_Village_clear_84 : decode b_Village_clear 84 = .ok (.return_, 1) := by decide +kernel
def L_Village_clear (v : Nat) : Nat → Nat → Int32 → zSt → Option (zSt)
  | 0, _, _, _ => none
  | n + 1, 0, x1, σ => if (5 : Int32) ≤ x1 then ((F_Homes_clear v σ).bind fun σ2 => (F_Tidings_clear v σ2).bind fun σ4 => (F_Entries_clear v 43 σ4).bind fun σ6 => (F_Entries_clear v 48 σ6).bind fun σ8 => (F_Journal_clear v σ8).bind fun σ10 => some σ10) else ((F_Waves_element 0 x1 σ).bind fun r12 => (F_Row_put v 1 x1 r12 σ).bind fun σ14 => L_Village_clear v n 0 (x1 + (1 : Int32)) σ14)
  | _ + 1, _, _, _ => none
theorem e_Village_clear_0 (v : Nat) (n : Nat) (x1 : Int32) (σ : zSt) : L_Village_clear v (n + 1) 0 x1 σ = (if (5 : Int32) ≤ x1 then ((F_Homes_clear v σ).bind fun σ2 => (F_Tidings_clear v σ2).bind fun σ4 => (F_Entries_clear v 43 σ4).bind fun σ6 => (F_Entries_clear v 48 σ6).bind fun σ8 => (F_Journal_clear v σ8).bind fun σ10 => some σ10) else ((F_Waves_element 0 x1 σ).bind fun r12 => (F_Row_put v 1 x1 r12 σ).bind fun σ14 => L_Village_clear v n 0 (x1 + (1 : Int32)) σ14)) := rfl
set_option maxHeartbeats 4000000 in
set_option maxRecDepth 100000 in
theorem w_Village_clear {l : Launch} {G : zLA} {p : Program} {e : Env} {s : State} {m : MethodId} {args : Array Value} {below : List Frame} {meth : Method} {c : Code} (C : zCx G p s m args meth c "VillageWaves$Village" b_Village_clear 2 none) {v : Nat} (hv : zvl G v) {σ' : zSt} : ∀ n : Nat, (∀ (x1 : Int32) (σ : zSt), L_Village_clear v n 0 x1 σ = some σ' → zWV G p l e rm_Village_clear s m args below meth c 2 0 0 (zQ G below args s rm_Village_clear none σ') 23 [(0, .ref (zad G v 0)), (1, .int x1)] [] σ) := by
  intro n
  induction n with
  | zero => exact fun _ _ hf => (by cases hf)
  | succ n ih =>
    refine ?_
    · intro x1 σ hf
      rw [e_Village_clear_0] at hf
      refine z_iload_n C d_Village_clear_23 1 rfl rfl ?_
      refine z_iconst C d_Village_clear_24 zki_5 ?_
      refine z_icmp_ge (tgt := 49) C d_Village_clear_25 rfl (fun h15 => ?_) (fun h15 => ?_)
      · have hf := iff_t hf h15
        refine z_aload_n C d_Village_clear_49 0 rfl rfl ?_
        refine gf_Village_36 C (zlv hv 0 rfl) rfl rfl d_Village_clear_50 ?_
        obtain ⟨σ2, h1, hf⟩ := bd_s hf
        refine z_cVv C kl_Village_88 rfl (c_Homes_clear hv h1) (zlv hv 3 rfl) rfl rfl rfl (Nat.le_of_ble_eq_true rfl) ⟨(Nat.le_of_ble_eq_true rfl), (Nat.le_of_ble_eq_true rfl)⟩ ⟨(Nat.le_of_ble_eq_true rfl), (Nat.le_of_ble_eq_true rfl)⟩ d_Village_clear_53 ?_
        refine z_aload_n C d_Village_clear_56 0 rfl rfl ?_
        refine gf_Village_43 C (zlv hv 0 rfl) rfl rfl d_Village_clear_57 ?_
        obtain ⟨σ4, h3, hf⟩ := bd_s hf
        refine z_cVv C kl_Village_89 rfl (c_Tidings_clear hv h3) (zlv hv 24 rfl) rfl rfl rfl (Nat.le_of_ble_eq_true rfl) ⟨(Nat.le_of_ble_eq_true rfl), (Nat.le_of_ble_eq_true rfl)⟩ ⟨(Nat.le_of_ble_eq_true rfl), (Nat.le_of_ble_eq_true rfl)⟩ d_Village_clear_60 ?_
        refine z_aload_n C d_Village_clear_63 0 rfl rfl ?_
        refine gf_Village_50 C (zlv hv 0 rfl) rfl rfl d_Village_clear_64 ?_
        obtain ⟨σ6, h5, hf⟩ := bd_s hf
        refine z_cVv C kl_Village_90 rfl (c_Entries_clear hv (Or.inl rfl) h5) (zlv hv 43 rfl) rfl rfl rfl (Nat.le_of_ble_eq_true rfl) ⟨(Nat.le_of_ble_eq_true rfl), (Nat.le_of_ble_eq_true rfl)⟩ ⟨(Nat.le_of_ble_eq_true rfl), (Nat.le_of_ble_eq_true rfl)⟩ d_Village_clear_67 ?_
        refine z_aload_n C d_Village_clear_70 0 rfl rfl ?_
        refine gf_Village_54 C (zlv hv 0 rfl) rfl rfl d_Village_clear_71 ?_
        obtain ⟨σ8, h7, hf⟩ := bd_s hf
        refine z_cVv C kl_Village_90 rfl (c_Entries_clear hv (Or.inr rfl) h7) (zlv hv 48 rfl) rfl rfl rfl (Nat.le_of_ble_eq_true rfl) ⟨(Nat.le_of_ble_eq_true rfl), (Nat.le_of_ble_eq_true rfl)⟩ ⟨(Nat.le_of_ble_eq_true rfl), (Nat.le_of_ble_eq_true rfl)⟩ d_Village_clear_74 ?_
        refine z_aload_n C d_Village_clear_77 0 rfl rfl ?_
        refine gf_Village_69 C (zlv hv 0 rfl) rfl rfl d_Village_clear_78 ?_
        obtain ⟨σ10, h9, hf⟩ := bd_s hf
        refine z_cVv C kl_Village_91 rfl (c_Journal_clear hv h9) (zlv hv 59 rfl) rfl rfl rfl (Nat.le_of_ble_eq_true rfl) ⟨(Nat.le_of_ble_eq_true rfl), (Nat.le_of_ble_eq_true rfl)⟩ ⟨(Nat.le_of_ble_eq_true rfl), (Nat.le_of_ble_eq_true rfl)⟩ d_Village_clear_81 ?_
        cases hf
        exact z_vret C rfl (Nat.le_of_ble_eq_true rfl) (Nat.le_of_ble_eq_true rfl) d_Village_clear_84
      · have hf := iff_f hf h15
        refine z_aload_n C d_Village_clear_28 0 rfl rfl ?_
        refine gf_Village_29 C (zlv hv 0 rfl) rfl rfl d_Village_clear_29 ?_
        refine z_iload_n C d_Village_clear_32 1 rfl rfl ?_
        refine z_gsN C 0 (by decide) zp232 d_Village_clear_33 ?_
        refine z_iload_n C d_Village_clear_36 1 rfl rfl ?_
        obtain ⟨r12, h11, hf⟩ := bd_s hf
        refine z_cSNi C kl_Village_80 (c_Waves_element (by decide) h11) rfl rfl (Nat.le_of_ble_eq_true rfl) ⟨(Nat.le_of_ble_eq_true rfl), (Nat.le_of_ble_eq_true rfl)⟩ ⟨(Nat.le_of_ble_eq_true rfl), (Nat.le_of_ble_eq_true rfl)⟩ d_Village_clear_37 ?_
        obtain ⟨σ14, h13, hf⟩ := bd_s hf
        refine z_cVv C kl_Village_84 rfl (c_Row_put (zrow_v hv 1 rfl) h13) (zlv hv 1 rfl) rfl rfl rfl (Nat.le_of_ble_eq_true rfl) ⟨(Nat.le_of_ble_eq_true rfl), (Nat.le_of_ble_eq_true rfl)⟩ ⟨(Nat.le_of_ble_eq_true rfl), (Nat.le_of_ble_eq_true rfl)⟩ d_Village_clear_40 ?_
        refine z_iinc C d_Village_clear_43 1 rfl zki_1 (by decide) ?_
        refine z_goto (tgt := 23) C d_Village_clear_46 rfl ?_
        exact z_sub [1, 0] rfl (ih _ _ hf)
def F_Village_clear (v : Nat) (σ : zSt) : Option (zSt) :=
  L_Village_clear v zK 0 (0 : Int32) (zst (zst (zst (zst σ v 0 0 (48 : Int32)) v 0 1 (0 : Int32)) v 0 2 (1 : Int32)) v 0 3 (0 : Int32))
set_option maxHeartbeats 4000000 in
set_option maxRecDepth 100000 in
theorem c_Village_clear {l : Launch} {G : zLA} {v : Nat} (hv : zvl G v) {σ : zSt} {σ' : zSt} (hf : F_Village_clear v σ = some σ') : zM l G y_Village_clear (zws y_Village_clear b_Village_clear 2 none) rm_Village_clear [.ref (zad G v 0)] σ none σ' := by
  refine z_ofM (own := "VillageWaves$Village") (lv := [(0, .ref (zad G v 0))]) (by decide +kernel) rfl rfl (Nat.le_of_ble_eq_true rfl) (fun p e s m args below meth c C => ?_)
  rw [F_Village_clear] at hf
  refine z_aload_n C d_Village_clear_0 0 rfl rfl ?_
  refine z_bipush C d_Village_clear_1 zkb_48 ?_
  refine pf_Village_9 C (zlv hv 0 rfl) rfl (Nat.le_of_ble_eq_true rfl) rfl d_Village_clear_3 ?_
  refine z_aload_n C d_Village_clear_6 0 rfl rfl ?_
  refine z_iconst C d_Village_clear_7 zki_0 ?_
  refine pf_Village_15 C (zlv hv 0 rfl) rfl (Nat.le_of_ble_eq_true rfl) rfl d_Village_clear_8 ?_
  refine z_aload_n C d_Village_clear_11 0 rfl rfl ?_
  refine z_iconst C d_Village_clear_12 zki_1 ?_
  refine pf_Village_18 C (zlv hv 0 rfl) rfl (Nat.le_of_ble_eq_true rfl) rfl d_Village_clear_13 ?_
  refine z_aload_n C d_Village_clear_16 0 rfl rfl ?_
  refine z_iconst C d_Village_clear_17 zki_0 ?_
  refine pf_Village_21 C (zlv hv 0 rfl) rfl (Nat.le_of_ble_eq_true rfl) rfl d_Village_clear_18 ?_
  refine z_iconst C d_Village_clear_21 zki_0 ?_
  refine z_istore_n C d_Village_clear_22 rfl (by decide) ?_
  exact z_sub [1, 0] rfl ((w_Village_clear C hv zK) _ _ hf)
abbrev rm_Village_copyFrom : Room := { frames := 3, cells := 0, slots := 0, locals := 132 }
theorem d_Village_copyFrom_0 : decode b_Village_copyFrom 0 = .ok (.aload_n 0, 1) := by decide +kernel
theorem d_Village_copyFrom_1 : decode b_Village_copyFrom 1 = .ok (.aload_n 1, 1) := by decide +kernel
theorem d_Village_copyFrom_2 : decode b_Village_copyFrom 2 = .ok (.getfield 9, 3) := by decide +kernel
theorem d_Village_copyFrom_5 : decode b_Village_copyFrom 5 = .ok (.putfield 9, 3) := by decide +kernel
theorem d_Village_copyFrom_8 : decode b_Village_copyFrom 8 = .ok (.aload_n 0, 1) := by decide +kernel
theorem d_Village_copyFrom_9 : decode b_Village_copyFrom 9 = .ok (.aload_n 1, 1) := by decide +kernel
theorem d_Village_copyFrom_10 : decode b_Village_copyFrom 10 = .ok (.getfield 15, 3) := by decide +kernel
theorem d_Village_copyFrom_13 : decode b_Village_copyFrom 13 = .ok (.putfield 15, 3) := by decide +kernel
theorem d_Village_copyFrom_16 : decode b_Village_copyFrom 16 = .ok (.aload_n 0, 1) := by decide +kernel
theorem d_Village_copyFrom_17 : decode b_Village_copyFrom 17 = .ok (.aload_n 1, 1) := by decide +kernel
theorem d_Village_copyFrom_18 : decode b_Village_copyFrom 18 = .ok (.getfield 18, 3) := by decide +kernel
theorem d_Village_copyFrom_21 : decode b_Village_copyFrom 21 = .ok (.putfield 18, 3) := by decide +kernel
theorem d_Village_copyFrom_24 : decode b_Village_copyFrom 24 = .ok (.aload_n 0, 1) := by decide +kernel
theorem d_Village_copyFrom_25 : decode b_Village_copyFrom 25 = .ok (.aload_n 1, 1) := by decide +kernel
theorem d_Village_copyFrom_26 : decode b_Village_copyFrom 26 = .ok (.getfield 21, 3) := by decide +kernel
theorem d_Village_copyFrom_29 : decode b_Village_copyFrom 29 = .ok (.putfield 21, 3) := by decide +kernel
theorem d_Village_copyFrom_32 : decode b_Village_copyFrom 32 = .ok (.aload_n 0, 1) := by decide +kernel
theorem d_Village_copyFrom_33 : decode b_Village_copyFrom 33 = .ok (.getfield 29, 3) := by decide +kernel
theorem d_Village_copyFrom_36 : decode b_Village_copyFrom 36 = .ok (.aload_n 1, 1) := by decide +kernel
theorem d_Village_copyFrom_37 : decode b_Village_copyFrom 37 = .ok (.getfield 29, 3) := by decide +kernel
theorem d_Village_copyFrom_40 : decode b_Village_copyFrom 40 = .ok (.invokevirtual 92, 3) := by decide +kernel
theorem d_Village_copyFrom_43 : decode b_Village_copyFrom 43 = .ok (.aload_n 0, 1) := by decide +kernel
theorem d_Village_copyFrom_44 : decode b_Village_copyFrom 44 = .ok (.getfield 36, 3) := by decide +kernel
theorem d_Village_copyFrom_47 : decode b_Village_copyFrom 47 = .ok (.aload_n 1, 1) := by decide +kernel
theorem d_Village_copyFrom_48 : decode b_Village_copyFrom 48 = .ok (.getfield 36, 3) := by decide +kernel
theorem d_Village_copyFrom_51 : decode b_Village_copyFrom 51 = .ok (.invokevirtual 96, 3) := by decide +kernel
theorem d_Village_copyFrom_54 : decode b_Village_copyFrom 54 = .ok (.aload_n 0, 1) := by decide +kernel
theorem d_Village_copyFrom_55 : decode b_Village_copyFrom 55 = .ok (.getfield 43, 3) := by decide +kernel
theorem d_Village_copyFrom_58 : decode b_Village_copyFrom 58 = .ok (.aload_n 1, 1) := by decide +kernel
theorem d_Village_copyFrom_59 : decode b_Village_copyFrom 59 = .ok (.getfield 43, 3) := by decide +kernel
theorem d_Village_copyFrom_62 : decode b_Village_copyFrom 62 = .ok (.invokevirtual 99, 3) := by decide +kernel
theorem d_Village_copyFrom_65 : decode b_Village_copyFrom 65 = .ok (.aload_n 0, 1) := by decide +kernel
theorem d_Village_copyFrom_66 : decode b_Village_copyFrom 66 = .ok (.getfield 50, 3) := by decide +kernel
theorem d_Village_copyFrom_69 : decode b_Village_copyFrom 69 = .ok (.aload_n 1, 1) := by decide +kernel
theorem d_Village_copyFrom_70 : decode b_Village_copyFrom 70 = .ok (.getfield 50, 3) := by decide +kernel
theorem d_Village_copyFrom_73 : decode b_Village_copyFrom 73 = .ok (.invokevirtual 102, 3) := by decide +kernel
theorem d_Village_copyFrom_76 : decode b_Village_copyFrom 76 = .ok (.aload_n 0, 1) := by decide +kernel
theorem d_Village_copyFrom_77 : decode b_Village_copyFrom 77 = .ok (.getfield 54, 3) := by decide +kernel
theorem d_Village_copyFrom_80 : decode b_Village_copyFrom 80 = .ok (.aload_n 1, 1) := by decide +kernel
theorem d_Village_copyFrom_81 : decode b_Village_copyFrom 81 = .ok (.getfield 54, 3) := by decide +kernel
theorem d_Village_copyFrom_84 : decode b_Village_copyFrom 84 = .ok (.invokevirtual 102, 3) := by decide +kernel
theorem d_Village_copyFrom_87 : decode b_Village_copyFrom 87 = .ok (.aload_n 0, 1) := by decide +kernel
theorem d_Village_copyFrom_88 : decode b_Village_copyFrom 88 = .ok (.getfield 57, 3) := by decide +kernel
theorem d_Village_copyFrom_91 : decode b_Village_copyFrom 91 = .ok (.aload_n 1, 1) := by decide +kernel
theorem d_Village_copyFrom_92 : decode b_Village_copyFrom 92 = .ok (.getfield 57, 3) := by decide +kernel
theorem d_Village_copyFrom_95 : decode b_Village_copyFrom 95 = .ok (.invokevirtual 92, 3) := by decide +kernel
theorem d_Village_copyFrom_98 : decode b_Village_copyFrom 98 = .ok (.aload_n 0, 1) := by decide +kernel
theorem d_Village_copyFrom_99 : decode b_Village_copyFrom 99 = .ok (.getfield 60, 3) := by decide +kernel
theorem d_Village_copyFrom_102 : decode b_Village_copyFrom 102 = .ok (.aload_n 1, 1) := by decide +kernel
theorem d_Village_copyFrom_103 : decode b_Village_copyFrom 103 = .ok (.getfield 60, 3) := by decide +kernel
theorem d_Village_copyFrom_106 : decode b_Village_copyFrom 106 = .ok (.invokevirtual 92, 3) := by decide +kernel
theorem d_Village_copyFrom_109 : decode b_Village_copyFrom 109 = .ok (.aload_n 0, 1) := by decide +kernel
theorem d_Village_copyFrom_110 : decode b_Village_copyFrom 110 = .ok (.getfield 63, 3) := by decide +kernel
theorem d_Village_copyFrom_113 : decode b_Village_copyFrom 113 = .ok (.aload_n 1, 1) := by decide +kernel
theorem d_Village_copyFrom_114 : decode b_Village_copyFrom 114 = .ok (.getfield 63, 3) := by decide +kernel
theorem d_Village_copyFrom_117 : decode b_Village_copyFrom 117 = .ok (.invokevirtual 92, 3) := by decide +kernel
theorem d_Village_copyFrom_120 : decode b_Village_copyFrom 120 = .ok (.aload_n 0, 1) := by decide +kernel
theorem d_Village_copyFrom_121 : decode b_Village_copyFrom 121 = .ok (.getfield 69, 3) := by decide +kernel
theorem d_Village_copyFrom_124 : decode b_Village_copyFrom 124 = .ok (.aload_n 1, 1) := by decide +kernel
theorem d_Village_copyFrom_125 : decode b_Village_copyFrom 125 = .ok (.getfield 69, 3) := by decide +kernel
theorem d_Village_copyFrom_128 : decode b_Village_copyFrom 128 = .ok (.invokevirtual 105, 3) := by decide +kernel
theorem d_Village_copyFrom_131 : decode b_Village_copyFrom 131 = .ok (.return_, 1) := by decide +kernel
def F_Village_copyFrom (v : Nat) (v2 : Nat) (σ : zSt) : Option (zSt) :=
  (F_Row_copyFrom v 1 v2 1 (zst (zst (zst (zst σ v 0 0 (σ.1 v2 0 0)) v 0 1 ((zst σ v 0 0 (σ.1 v2 0 0)).1 v2 0 1)) v 0 2 ((zst (zst σ v 0 0 (σ.1 v2 0 0)) v 0 1 ((zst σ v 0 0 (σ.1 v2 0 0)).1 v2 0 1)).1 v2 0 2)) v 0 3 ((zst (zst (zst σ v 0 0 (σ.1 v2 0 0)) v 0 1 ((zst σ v 0 0 (σ.1 v2 0 0)).1 v2 0 1)) v 0 2 ((zst (zst σ v 0 0 (σ.1 v2 0 0)) v 0 1 ((zst σ v 0 0 (σ.1 v2 0 0)).1 v2 0 1)).1 v2 0 2)).1 v2 0 3))).bind fun σ2 => (F_Homes_copyFrom v v2 σ2).bind fun σ4 => (F_Tidings_copyFrom v v2 σ4).bind fun σ6 => (F_Entries_copyFrom v 43 v2 43 σ6).bind fun σ8 => (F_Entries_copyFrom v 48 v2 48 σ8).bind fun σ10 => (F_Row_copyFrom v 53 v2 53 σ10).bind fun σ12 => (F_Row_copyFrom v 55 v2 55 σ12).bind fun σ14 => (F_Row_copyFrom v 57 v2 57 σ14).bind fun σ16 => (F_Journal_copyFrom v v2 σ16).bind fun σ18 => some σ18
set_option maxHeartbeats 4000000 in
set_option maxRecDepth 100000 in
theorem c_Village_copyFrom {l : Launch} {G : zLA} {v : Nat} (hv : zvl G v) {v2 : Nat} (hv2 : zvl G v2) {σ : zSt} {σ' : zSt} (hf : F_Village_copyFrom v v2 σ = some σ') : zM l G y_Village_copyFrom (zws y_Village_copyFrom b_Village_copyFrom 2 none) rm_Village_copyFrom [.ref (zad G v 0), .ref (zad G v2 0)] σ none σ' := by
  refine z_ofM (own := "VillageWaves$Village") (lv := [(0, .ref (zad G v 0)), (1, .ref (zad G v2 0))]) (by decide +kernel) rfl rfl (Nat.le_of_ble_eq_true rfl) (fun p e s m args below meth c C => ?_)
  rw [F_Village_copyFrom] at hf
  refine z_aload_n C d_Village_copyFrom_0 0 rfl rfl ?_
  refine z_aload_n C d_Village_copyFrom_1 1 rfl rfl ?_
  refine gf_Village_9 C (zlv hv2 0 rfl) rfl rfl d_Village_copyFrom_2 ?_
  refine pf_Village_9 C (zlv hv 0 rfl) rfl (Nat.le_of_ble_eq_true rfl) rfl d_Village_copyFrom_5 ?_
  refine z_aload_n C d_Village_copyFrom_8 0 rfl rfl ?_
  refine z_aload_n C d_Village_copyFrom_9 1 rfl rfl ?_
  refine gf_Village_15 C (zlv hv2 0 rfl) rfl rfl d_Village_copyFrom_10 ?_
  refine pf_Village_15 C (zlv hv 0 rfl) rfl (Nat.le_of_ble_eq_true rfl) rfl d_Village_copyFrom_13 ?_
  refine z_aload_n C d_Village_copyFrom_16 0 rfl rfl ?_
  refine z_aload_n C d_Village_copyFrom_17 1 rfl rfl ?_
  refine gf_Village_18 C (zlv hv2 0 rfl) rfl rfl d_Village_copyFrom_18 ?_
  refine pf_Village_18 C (zlv hv 0 rfl) rfl (Nat.le_of_ble_eq_true rfl) rfl d_Village_copyFrom_21 ?_
  refine z_aload_n C d_Village_copyFrom_24 0 rfl rfl ?_
  refine z_aload_n C d_Village_copyFrom_25 1 rfl rfl ?_
  refine gf_Village_21 C (zlv hv2 0 rfl) rfl rfl d_Village_copyFrom_26 ?_
  refine pf_Village_21 C (zlv hv 0 rfl) rfl (Nat.le_of_ble_eq_true rfl) rfl d_Village_copyFrom_29 ?_
  refine z_aload_n C d_Village_copyFrom_32 0 rfl rfl ?_
  refine gf_Village_29 C (zlv hv 0 rfl) rfl rfl d_Village_copyFrom_33 ?_
  refine z_aload_n C d_Village_copyFrom_36 1 rfl rfl ?_
  refine gf_Village_29 C (zlv hv2 0 rfl) rfl rfl d_Village_copyFrom_37 ?_
  obtain ⟨σ2, h1, hf⟩ := bd_s hf
  refine z_cVv C kl_Village_92 rfl (c_Row_copyFrom (zrow_v hv 1 rfl) (zrow_v hv2 1 rfl) h1) (zlv hv 1 rfl) rfl rfl rfl (Nat.le_of_ble_eq_true rfl) ⟨(Nat.le_of_ble_eq_true rfl), (Nat.le_of_ble_eq_true rfl)⟩ ⟨(Nat.le_of_ble_eq_true rfl), (Nat.le_of_ble_eq_true rfl)⟩ d_Village_copyFrom_40 ?_
  refine z_aload_n C d_Village_copyFrom_43 0 rfl rfl ?_
  refine gf_Village_36 C (zlv hv 0 rfl) rfl rfl d_Village_copyFrom_44 ?_
  refine z_aload_n C d_Village_copyFrom_47 1 rfl rfl ?_
  refine gf_Village_36 C (zlv hv2 0 rfl) rfl rfl d_Village_copyFrom_48 ?_
  obtain ⟨σ4, h3, hf⟩ := bd_s hf
  refine z_cVv C kl_Village_96 rfl (c_Homes_copyFrom hv hv2 h3) (zlv hv 3 rfl) rfl rfl rfl (Nat.le_of_ble_eq_true rfl) ⟨(Nat.le_of_ble_eq_true rfl), (Nat.le_of_ble_eq_true rfl)⟩ ⟨(Nat.le_of_ble_eq_true rfl), (Nat.le_of_ble_eq_true rfl)⟩ d_Village_copyFrom_51 ?_
  refine z_aload_n C d_Village_copyFrom_54 0 rfl rfl ?_
  refine gf_Village_43 C (zlv hv 0 rfl) rfl rfl d_Village_copyFrom_55 ?_
  refine z_aload_n C d_Village_copyFrom_58 1 rfl rfl ?_
  refine gf_Village_43 C (zlv hv2 0 rfl) rfl rfl d_Village_copyFrom_59 ?_
  obtain ⟨σ6, h5, hf⟩ := bd_s hf
  refine z_cVv C kl_Village_99 rfl (c_Tidings_copyFrom hv hv2 h5) (zlv hv 24 rfl) rfl rfl rfl (Nat.le_of_ble_eq_true rfl) ⟨(Nat.le_of_ble_eq_true rfl), (Nat.le_of_ble_eq_true rfl)⟩ ⟨(Nat.le_of_ble_eq_true rfl), (Nat.le_of_ble_eq_true rfl)⟩ d_Village_copyFrom_62 ?_
  refine z_aload_n C d_Village_copyFrom_65 0 rfl rfl ?_
  refine gf_Village_50 C (zlv hv 0 rfl) rfl rfl d_Village_copyFrom_66 ?_
  refine z_aload_n C d_Village_copyFrom_69 1 rfl rfl ?_
  refine gf_Village_50 C (zlv hv2 0 rfl) rfl rfl d_Village_copyFrom_70 ?_
  obtain ⟨σ8, h7, hf⟩ := bd_s hf
  refine z_cVv C kl_Village_102 rfl (c_Entries_copyFrom hv (Or.inl rfl) hv2 (Or.inl rfl) h7) (zlv hv 43 rfl) rfl rfl rfl (Nat.le_of_ble_eq_true rfl) ⟨(Nat.le_of_ble_eq_true rfl), (Nat.le_of_ble_eq_true rfl)⟩ ⟨(Nat.le_of_ble_eq_true rfl), (Nat.le_of_ble_eq_true rfl)⟩ d_Village_copyFrom_73 ?_
  refine z_aload_n C d_Village_copyFrom_76 0 rfl rfl ?_
  refine gf_Village_54 C (zlv hv 0 rfl) rfl rfl d_Village_copyFrom_77 ?_
  refine z_aload_n C d_Village_copyFrom_80 1 rfl rfl ?_
  refine gf_Village_54 C (zlv hv2 0 rfl) rfl rfl d_Village_copyFrom_81 ?_
  obtain ⟨σ10, h9, hf⟩ := bd_s hf
  refine z_cVv C kl_Village_102 rfl (c_Entries_copyFrom hv (Or.inr rfl) hv2 (Or.inr rfl) h9) (zlv hv 48 rfl) rfl rfl rfl (Nat.le_of_ble_eq_true rfl) ⟨(Nat.le_of_ble_eq_true rfl), (Nat.le_of_ble_eq_true rfl)⟩ ⟨(Nat.le_of_ble_eq_true rfl), (Nat.le_of_ble_eq_true rfl)⟩ d_Village_copyFrom_84 ?_
  refine z_aload_n C d_Village_copyFrom_87 0 rfl rfl ?_
  refine gf_Village_57 C (zlv hv 0 rfl) rfl rfl d_Village_copyFrom_88 ?_
  refine z_aload_n C d_Village_copyFrom_91 1 rfl rfl ?_
  refine gf_Village_57 C (zlv hv2 0 rfl) rfl rfl d_Village_copyFrom_92 ?_
  obtain ⟨σ12, h11, hf⟩ := bd_s hf
  refine z_cVv C kl_Village_92 rfl (c_Row_copyFrom (zrow_v hv 53 rfl) (zrow_v hv2 53 rfl) h11) (zlv hv 53 rfl) rfl rfl rfl (Nat.le_of_ble_eq_true rfl) ⟨(Nat.le_of_ble_eq_true rfl), (Nat.le_of_ble_eq_true rfl)⟩ ⟨(Nat.le_of_ble_eq_true rfl), (Nat.le_of_ble_eq_true rfl)⟩ d_Village_copyFrom_95 ?_
  refine z_aload_n C d_Village_copyFrom_98 0 rfl rfl ?_
  refine gf_Village_60 C (zlv hv 0 rfl) rfl rfl d_Village_copyFrom_99 ?_
  refine z_aload_n C d_Village_copyFrom_102 1 rfl rfl ?_
  refine gf_Village_60 C (zlv hv2 0 rfl) rfl rfl d_Village_copyFrom_103 ?_
  obtain ⟨σ14, h13, hf⟩ := bd_s hf
  refine z_cVv C kl_Village_92 rfl (c_Row_copyFrom (zrow_v hv 55 rfl) (zrow_v hv2 55 rfl) h13) (zlv hv 55 rfl) rfl rfl rfl (Nat.le_of_ble_eq_true rfl) ⟨(Nat.le_of_ble_eq_true rfl), (Nat.le_of_ble_eq_true rfl)⟩ ⟨(Nat.le_of_ble_eq_true rfl), (Nat.le_of_ble_eq_true rfl)⟩ d_Village_copyFrom_106 ?_
  refine z_aload_n C d_Village_copyFrom_109 0 rfl rfl ?_
  refine gf_Village_63 C (zlv hv 0 rfl) rfl rfl d_Village_copyFrom_110 ?_
  refine z_aload_n C d_Village_copyFrom_113 1 rfl rfl ?_
  refine gf_Village_63 C (zlv hv2 0 rfl) rfl rfl d_Village_copyFrom_114 ?_
  obtain ⟨σ16, h15, hf⟩ := bd_s hf
  refine z_cVv C kl_Village_92 rfl (c_Row_copyFrom (zrow_v hv 57 rfl) (zrow_v hv2 57 rfl) h15) (zlv hv 57 rfl) rfl rfl rfl (Nat.le_of_ble_eq_true rfl) ⟨(Nat.le_of_ble_eq_true rfl), (Nat.le_of_ble_eq_true rfl)⟩ ⟨(Nat.le_of_ble_eq_true rfl), (Nat.le_of_ble_eq_true rfl)⟩ d_Village_copyFrom_117 ?_
  refine z_aload_n C d_Village_copyFrom_120 0 rfl rfl ?_
  refine gf_Village_69 C (zlv hv 0 rfl) rfl rfl d_Village_copyFrom_121 ?_
  refine z_aload_n C d_Village_copyFrom_124 1 rfl rfl ?_
  refine gf_Village_69 C (zlv hv2 0 rfl) rfl rfl d_Village_copyFrom_125 ?_
  obtain ⟨σ18, h17, hf⟩ := bd_s hf
  refine z_cVv C kl_Village_105 rfl (c_Journal_copyFrom hv hv2 h17) (zlv hv 59 rfl) rfl rfl rfl (Nat.le_of_ble_eq_true rfl) ⟨(Nat.le_of_ble_eq_true rfl), (Nat.le_of_ble_eq_true rfl)⟩ ⟨(Nat.le_of_ble_eq_true rfl), (Nat.le_of_ble_eq_true rfl)⟩ d_Village_copyFrom_128 ?_
  cases hf
  exact z_vret C rfl (Nat.le_of_ble_eq_true rfl) (Nat.le_of_ble_eq_true rfl) d_Village_copyFrom_131
abbrev rm_Village_minuteOfDay : Room := { frames := 0, cells := 0, slots := 0, locals := 0 }
theorem d_Village_minuteOfDay_0 : decode b_Village_minuteOfDay 0 = .ok (.aload_n 0, 1) := by decide +kernel
theorem d_Village_minuteOfDay_1 : decode b_Village_minuteOfDay 1 = .ok (.getfield 9, 3) := by decide +kernel
theorem d_Village_minuteOfDay_4 : decode b_Village_minuteOfDay 4 = .ok (.ifCond .le 15, 3) := by decide +kernel
theorem d_Village_minuteOfDay_7 : decode b_Village_minuteOfDay 7 = .ok (.aload_n 0, 1) := by decide +kernel
theorem d_Village_minuteOfDay_8 : decode b_Village_minuteOfDay 8 = .ok (.getfield 15, 3) := by decide +kernel
theorem d_Village_minuteOfDay_11 : decode b_Village_minuteOfDay 11 = .ok (.aload_n 0, 1) := by decide +kernel
theorem d_Village_minuteOfDay_12 : decode b_Village_minuteOfDay 12 = .ok (.getfield 9, 3) := by decide +kernel
theorem d_Village_minuteOfDay_15 : decode b_Village_minuteOfDay 15 = .ok (.irem, 1) := by decide +kernel
theorem d_Village_minuteOfDay_16 : decode b_Village_minuteOfDay 16 = .ok (.goto 4, 3) := by decide +kernel
theorem d_Village_minuteOfDay_19 : decode b_Village_minuteOfDay 19 = .ok (.iconst 0, 1) := by decide +kernel
theorem d_Village_minuteOfDay_20 : decode b_Village_minuteOfDay 20 = .ok (.ireturn, 1) := by decide +kernel
def F_Village_minuteOfDay (v : Nat) (σ : zSt) : Option (Int32) :=
  if (σ.1 v 0 0) ≤ 0 then some (0 : Int32) else (if ¬ (σ.1 v 0 0) = (0 : Int32) then some ((σ.1 v 0 1) - (σ.1 v 0 1) / (σ.1 v 0 0) * (σ.1 v 0 0)) else none)
set_option maxHeartbeats 4000000 in
set_option maxRecDepth 100000 in
theorem c_Village_minuteOfDay {l : Launch} {G : zLA} {v : Nat} (hv : zvl G v) {σ : zSt} {r : Int32} (hf : F_Village_minuteOfDay v σ = some r) : zM l G y_Village_minuteOfDay (zws y_Village_minuteOfDay b_Village_minuteOfDay 1 (some .int)) rm_Village_minuteOfDay [.ref (zad G v 0)] σ (some (.int r)) σ := by
  refine z_ofM (own := "VillageWaves$Village") (lv := [(0, .ref (zad G v 0))]) (by decide +kernel) rfl rfl (Nat.le_of_ble_eq_true rfl) (fun p e s m args below meth c C => ?_)
  rw [F_Village_minuteOfDay] at hf
  refine z_aload_n C d_Village_minuteOfDay_0 0 rfl rfl ?_
  refine gf_Village_9 C (zlv hv 0 rfl) rfl rfl d_Village_minuteOfDay_1 ?_
  refine z_if_le (tgt := 19) C d_Village_minuteOfDay_4 rfl (fun h2 => ?_) (fun h2 => ?_)
  · have hf := iff_t hf h2
    refine z_iconst C d_Village_minuteOfDay_19 zki_0 ?_
    cases hf
    exact z_iret C rfl (Nat.le_of_ble_eq_true rfl) (Nat.le_of_ble_eq_true rfl) d_Village_minuteOfDay_20
  · have hf := iff_f hf h2
    refine z_aload_n C d_Village_minuteOfDay_7 0 rfl rfl ?_
    refine gf_Village_15 C (zlv hv 0 rfl) rfl rfl d_Village_minuteOfDay_8 ?_
    refine z_aload_n C d_Village_minuteOfDay_11 0 rfl rfl ?_
    refine gf_Village_9 C (zlv hv 0 rfl) rfl rfl d_Village_minuteOfDay_12 ?_
    obtain ⟨h1, hf⟩ := iff_g hf
    refine z_irem C d_Village_minuteOfDay_15 h1 ?_
    refine z_goto (tgt := 20) C d_Village_minuteOfDay_16 rfl ?_
    cases hf
    exact z_iret C rfl (Nat.le_of_ble_eq_true rfl) (Nat.le_of_ble_eq_true rfl) d_Village_minuteOfDay_20
abbrev rm_Village_addNews : Room := { frames := 2, cells := 0, slots := 0, locals := 46 }
theorem d_Village_addNews_0 : decode b_Village_addNews 0 = .ok (.aload_n 0, 1) := by decide +kernel
theorem d_Village_addNews_1 : decode b_Village_addNews 1 = .ok (.getfield 43, 3) := by decide +kernel
theorem d_Village_addNews_4 : decode b_Village_addNews 4 = .ok (.iload_n 1, 1) := by decide +kernel
theorem d_Village_addNews_5 : decode b_Village_addNews 5 = .ok (.aload_n 0, 1) := by decide +kernel
theorem d_Village_addNews_6 : decode b_Village_addNews 6 = .ok (.getfield 15, 3) := by decide +kernel
theorem d_Village_addNews_9 : decode b_Village_addNews 9 = .ok (.iload_n 2, 1) := by decide +kernel
theorem d_Village_addNews_10 : decode b_Village_addNews 10 = .ok (.invokevirtual 108, 3) := by decide +kernel
theorem d_Village_addNews_13 : decode b_Village_addNews 13 = .ok (.istore_n 3, 1) := by decide +kernel
theorem d_Village_addNews_14 : decode b_Village_addNews 14 = .ok (.iconst 0, 1) := by decide +kernel
theorem d_Village_addNews_15 : decode b_Village_addNews 15 = .ok (.istore 4, 2) := by decide +kernel
theorem d_Village_addNews_17 : decode b_Village_addNews 17 = .ok (.iload 4, 2) := by decide +kernel
theorem d_Village_addNews_19 : decode b_Village_addNews 19 = .ok (.bipush 12, 2) := by decide +kernel
theorem d_Village_addNews_21 : decode b_Village_addNews 21 = .ok (.if_icmp .ge 37, 3) := by decide +kernel
theorem d_Village_addNews_24 : decode b_Village_addNews 24 = .ok (.aload_n 0, 1) := by decide +kernel
theorem d_Village_addNews_25 : decode b_Village_addNews 25 = .ok (.getfield 60, 3) := by decide +kernel
theorem d_Village_addNews_28 : decode b_Village_addNews 28 = .ok (.iload 4, 2) := by decide +kernel
theorem d_Village_addNews_30 : decode b_Village_addNews 30 = .ok (.iload_n 3, 1) := by decide +kernel
theorem d_Village_addNews_31 : decode b_Village_addNews 31 = .ok (.invokestatic 112, 3) := by decide +kernel
theorem d_Village_addNews_34 : decode b_Village_addNews 34 = .ok (.iconst (-1), 1) := by decide +kernel
theorem d_Village_addNews_35 : decode b_Village_addNews 35 = .ok (.invokevirtual 84, 3) := by decide +kernel
theorem d_Village_addNews_38 : decode b_Village_addNews 38 = .ok (.aload_n 0, 1) := by decide +kernel
theorem d_Village_addNews_39 : decode b_Village_addNews 39 = .ok (.getfield 63, 3) := by decide +kernel
theorem d_Village_addNews_42 : decode b_Village_addNews 42 = .ok (.iload 4, 2) := by decide +kernel
theorem d_Village_addNews_44 : decode b_Village_addNews 44 = .ok (.iload_n 3, 1) := by decide +kernel
theorem d_Village_addNews_45 : decode b_Village_addNews 45 = .ok (.invokestatic 112, 3) := by decide +kernel
theorem d_Village_addNews_48 : decode b_Village_addNews 48 = .ok (.iconst 0, 1) := by decide +kernel
theorem d_Village_addNews_49 : decode b_Village_addNews 49 = .ok (.invokevirtual 84, 3) := by decide +kernel
theorem d_Village_addNews_52 : decode b_Village_addNews 52 = .ok (.iinc 4 1, 3) := by decide +kernel
theorem d_Village_addNews_55 : decode b_Village_addNews 55 = .ok (.goto (-38), 3) := by decide +kernel
theorem d_Village_addNews_58 : decode b_Village_addNews 58 = .ok (.aload_n 0, 1) := by decide +kernel
theorem d_Village_addNews_59 : decode b_Village_addNews 59 = .ok (.getfield 50, 3) := by decide +kernel
theorem d_Village_addNews_62 : decode b_Village_addNews 62 = .ok (.iload_n 1, 1) := by decide +kernel
theorem d_Village_addNews_63 : decode b_Village_addNews 63 = .ok (.iload_n 3, 1) := by decide +kernel
theorem d_Village_addNews_64 : decode b_Village_addNews 64 = .ok (.aload_n 0, 1) := by decide +kernel
theorem d_Village_addNews_65 : decode b_Village_addNews 65 = .ok (.getfield 15, 3) := by decide +kernel
theorem d_Village_addNews_68 : decode b_Village_addNews 68 = .ok (.invokevirtual 116, 3) := by decide +kernel
theorem d_Village_addNews_71 : decode b_Village_addNews 71 = .ok (.aload_n 0, 1) := by decide +kernel
theorem d_Village_addNews_72 : decode b_Village_addNews 72 = .ok (.getfield 57, 3) := by decide +kernel
theorem d_Village_addNews_75 : decode b_Village_addNews 75 = .ok (.iload_n 1, 1) := by decide +kernel
theorem d_Village_addNews_76 : decode b_Village_addNews 76 = .ok (.iload_n 3, 1) := by decide +kernel
theorem d_Village_addNews_77 : decode b_Village_addNews 77 = .ok (.invokestatic 112, 3) := by decide +kernel
theorem d_Village_addNews_80 : decode b_Village_addNews 80 = .ok (.iconst 0, 1) := by decide +kernel
theorem d_Village_addNews_81 : decode b_Village_addNews 81 = .ok (.invokevirtual 84, 3) := by decide +kernel
theorem d_Village_addNews_84 : decode b_Village_addNews 84 = .ok (.iload_n 3, 1) := by decide +kernel
theorem d_Village_addNews_85 : decode b_Village_addNews 85 = .ok (.ireturn, 1) := by decide +kernel
def L_Village_addNews (v : Nat) : Nat → Nat → Int32 → Int32 → Int32 → zSt → Option (Int32 × zSt)
  | 0, _, _, _, _, _ => none
  | n + 1, 0, x1, x3, x4, σ => if (12 : Int32) ≤ x4 then ((F_Entries_put v 43 x1 x3 (σ.1 v 0 1) σ).bind fun σ5 => (F_Waves_cell x1 x3 σ5).bind fun r7 => (F_Row_put v 53 r7 (0 : Int32) σ5).bind fun σ9 => some (x3, σ9)) else ((F_Waves_cell x4 x3 σ).bind fun r11 => (F_Row_put v 55 r11 (-1 : Int32) σ).bind fun σ13 => (F_Waves_cell x4 x3 σ13).bind fun r15 => (F_Row_put v 57 r15 (0 : Int32) σ13).bind fun σ17 => L_Village_addNews v n 0 x1 x3 (x4 + (1 : Int32)) σ17)
  | _ + 1, _, _, _, _, _ => none
theorem e_Village_addNews_0 (v : Nat) (n : Nat) (x1 : Int32) (x3 : Int32) (x4 : Int32) (σ : zSt) : L_Village_addNews v (n + 1) 0 x1 x3 x4 σ = (if (12 : Int32) ≤ x4 then ((F_Entries_put v 43 x1 x3 (σ.1 v 0 1) σ).bind fun σ5 => (F_Waves_cell x1 x3 σ5).bind fun r7 => (F_Row_put v 53 r7 (0 : Int32) σ5).bind fun σ9 => some (x3, σ9)) else ((F_Waves_cell x4 x3 σ).bind fun r11 => (F_Row_put v 55 r11 (-1 : Int32) σ).bind fun σ13 => (F_Waves_cell x4 x3 σ13).bind fun r15 => (F_Row_put v 57 r15 (0 : Int32) σ13).bind fun σ17 => L_Village_addNews v n 0 x1 x3 (x4 + (1 : Int32)) σ17)) := rfl
set_option maxHeartbeats 4000000 in
set_option maxRecDepth 100000 in
theorem w_Village_addNews {l : Launch} {G : zLA} {p : Program} {e : Env} {s : State} {m : MethodId} {args : Array Value} {below : List Frame} {meth : Method} {c : Code} (C : zCx G p s m args meth c "VillageWaves$Village" b_Village_addNews 5 (some .int)) {v : Nat} (hv : zvl G v) {r : Int32} {σ' : zSt} : ∀ n : Nat, (∀ (x1 : Int32) (x3 : Int32) (x4 : Int32) (σ : zSt), L_Village_addNews v n 0 x1 x3 x4 σ = some (r, σ') → zWV G p l e rm_Village_addNews s m args below meth c 5 0 0 (zQ G below args s rm_Village_addNews (some (.int r)) σ') 17 [(0, .ref (zad G v 0)), (1, .int x1), (3, .int x3), (4, .int x4)] [] σ) := by
  intro n
  induction n with
  | zero => exact fun _ _ _ _ hf => (by cases hf)
  | succ n ih =>
    refine ?_
    · intro x1 x3 x4 σ hf
      rw [e_Village_addNews_0] at hf
      refine z_iload C d_Village_addNews_17 3 rfl ?_
      refine z_bipush C d_Village_addNews_19 zkb_12 ?_
      refine z_icmp_ge (tgt := 58) C d_Village_addNews_21 rfl (fun h18 => ?_) (fun h18 => ?_)
      · have hf := iff_t hf h18
        refine z_aload_n C d_Village_addNews_58 0 rfl rfl ?_
        refine gf_Village_50 C (zlv hv 0 rfl) rfl rfl d_Village_addNews_59 ?_
        refine z_iload_n C d_Village_addNews_62 1 rfl rfl ?_
        refine z_iload_n C d_Village_addNews_63 2 rfl rfl ?_
        refine z_aload_n C d_Village_addNews_64 0 rfl rfl ?_
        refine gf_Village_15 C (zlv hv 0 rfl) rfl rfl d_Village_addNews_65 ?_
        obtain ⟨σ5, h4, hf⟩ := bd_s hf
        refine z_cVv C kl_Village_116 rfl (c_Entries_put hv (Or.inl rfl) h4) (zlv hv 43 rfl) rfl rfl rfl (Nat.le_of_ble_eq_true rfl) ⟨(Nat.le_of_ble_eq_true rfl), (Nat.le_of_ble_eq_true rfl)⟩ ⟨(Nat.le_of_ble_eq_true rfl), (Nat.le_of_ble_eq_true rfl)⟩ d_Village_addNews_68 ?_
        refine z_aload_n C d_Village_addNews_71 0 rfl rfl ?_
        refine gf_Village_57 C (zlv hv 0 rfl) rfl rfl d_Village_addNews_72 ?_
        refine z_iload_n C d_Village_addNews_75 1 rfl rfl ?_
        refine z_iload_n C d_Village_addNews_76 2 rfl rfl ?_
        obtain ⟨r7, h6, hf⟩ := bd_s hf
        refine z_cSNi C kl_Village_112 (c_Waves_cell h6) rfl rfl (Nat.le_of_ble_eq_true rfl) ⟨(Nat.le_of_ble_eq_true rfl), (Nat.le_of_ble_eq_true rfl)⟩ ⟨(Nat.le_of_ble_eq_true rfl), (Nat.le_of_ble_eq_true rfl)⟩ d_Village_addNews_77 ?_
        refine z_iconst C d_Village_addNews_80 zki_0 ?_
        obtain ⟨σ9, h8, hf⟩ := bd_s hf
        refine z_cVv C kl_Village_84 rfl (c_Row_put (zrow_v hv 53 rfl) h8) (zlv hv 53 rfl) rfl rfl rfl (Nat.le_of_ble_eq_true rfl) ⟨(Nat.le_of_ble_eq_true rfl), (Nat.le_of_ble_eq_true rfl)⟩ ⟨(Nat.le_of_ble_eq_true rfl), (Nat.le_of_ble_eq_true rfl)⟩ d_Village_addNews_81 ?_
        refine z_iload_n C d_Village_addNews_84 2 rfl rfl ?_
        cases hf
        exact z_iret C rfl (Nat.le_of_ble_eq_true rfl) (Nat.le_of_ble_eq_true rfl) d_Village_addNews_85
      · have hf := iff_f hf h18
        refine z_aload_n C d_Village_addNews_24 0 rfl rfl ?_
        refine gf_Village_60 C (zlv hv 0 rfl) rfl rfl d_Village_addNews_25 ?_
        refine z_iload C d_Village_addNews_28 3 rfl ?_
        refine z_iload_n C d_Village_addNews_30 2 rfl rfl ?_
        obtain ⟨r11, h10, hf⟩ := bd_s hf
        refine z_cSNi C kl_Village_112 (c_Waves_cell h10) rfl rfl (Nat.le_of_ble_eq_true rfl) ⟨(Nat.le_of_ble_eq_true rfl), (Nat.le_of_ble_eq_true rfl)⟩ ⟨(Nat.le_of_ble_eq_true rfl), (Nat.le_of_ble_eq_true rfl)⟩ d_Village_addNews_31 ?_
        refine z_iconst C d_Village_addNews_34 zki_m1 ?_
        obtain ⟨σ13, h12, hf⟩ := bd_s hf
        refine z_cVv C kl_Village_84 rfl (c_Row_put (zrow_v hv 55 rfl) h12) (zlv hv 55 rfl) rfl rfl rfl (Nat.le_of_ble_eq_true rfl) ⟨(Nat.le_of_ble_eq_true rfl), (Nat.le_of_ble_eq_true rfl)⟩ ⟨(Nat.le_of_ble_eq_true rfl), (Nat.le_of_ble_eq_true rfl)⟩ d_Village_addNews_35 ?_
        refine z_aload_n C d_Village_addNews_38 0 rfl rfl ?_
        refine gf_Village_63 C (zlv hv 0 rfl) rfl rfl d_Village_addNews_39 ?_
        refine z_iload C d_Village_addNews_42 3 rfl ?_
        refine z_iload_n C d_Village_addNews_44 2 rfl rfl ?_
        obtain ⟨r15, h14, hf⟩ := bd_s hf
        refine z_cSNi C kl_Village_112 (c_Waves_cell h14) rfl rfl (Nat.le_of_ble_eq_true rfl) ⟨(Nat.le_of_ble_eq_true rfl), (Nat.le_of_ble_eq_true rfl)⟩ ⟨(Nat.le_of_ble_eq_true rfl), (Nat.le_of_ble_eq_true rfl)⟩ d_Village_addNews_45 ?_
        refine z_iconst C d_Village_addNews_48 zki_0 ?_
        obtain ⟨σ17, h16, hf⟩ := bd_s hf
        refine z_cVv C kl_Village_84 rfl (c_Row_put (zrow_v hv 57 rfl) h16) (zlv hv 57 rfl) rfl rfl rfl (Nat.le_of_ble_eq_true rfl) ⟨(Nat.le_of_ble_eq_true rfl), (Nat.le_of_ble_eq_true rfl)⟩ ⟨(Nat.le_of_ble_eq_true rfl), (Nat.le_of_ble_eq_true rfl)⟩ d_Village_addNews_49 ?_
        refine z_iinc C d_Village_addNews_52 3 rfl zki_1 (by decide) ?_
        refine z_goto (tgt := 17) C d_Village_addNews_55 rfl ?_
        exact z_sub [1, 2, 3, 0] rfl (ih _ _ _ _ hf)
def F_Village_addNews (v : Nat) (a0 : Int32) (a1 : Int32) (σ : zSt) : Option (Int32 × zSt) :=
  bd2 (F_Tidings_add v a0 (σ.1 v 0 1) a1 σ) fun r2 σ3 => L_Village_addNews v zK 0 a0 r2 (0 : Int32) σ3
set_option maxHeartbeats 4000000 in
set_option maxRecDepth 100000 in
theorem c_Village_addNews {l : Launch} {G : zLA} {v : Nat} (hv : zvl G v) {a0 : Int32} {a1 : Int32} {σ : zSt} {r : Int32} {σ' : zSt} (hf : F_Village_addNews v a0 a1 σ = some (r, σ')) : zM l G y_Village_addNews (zws y_Village_addNews b_Village_addNews 5 (some .int)) rm_Village_addNews [.ref (zad G v 0), .int a0, .int a1] σ (some (.int r)) σ' := by
  refine z_ofM (own := "VillageWaves$Village") (lv := [(0, .ref (zad G v 0)), (1, .int a0), (2, .int a1)]) (by decide +kernel) rfl rfl (Nat.le_of_ble_eq_true rfl) (fun p e s m args below meth c C => ?_)
  rw [F_Village_addNews] at hf
  refine z_aload_n C d_Village_addNews_0 0 rfl rfl ?_
  refine gf_Village_43 C (zlv hv 0 rfl) rfl rfl d_Village_addNews_1 ?_
  refine z_iload_n C d_Village_addNews_4 1 rfl rfl ?_
  refine z_aload_n C d_Village_addNews_5 0 rfl rfl ?_
  refine gf_Village_15 C (zlv hv 0 rfl) rfl rfl d_Village_addNews_6 ?_
  refine z_iload_n C d_Village_addNews_9 2 rfl rfl ?_
  obtain ⟨r2, σ3, h1, hf⟩ := bd2_s hf
  refine z_cVi C kl_Village_108 rfl (c_Tidings_add hv h1) (zlv hv 24 rfl) rfl rfl rfl (Nat.le_of_ble_eq_true rfl) ⟨(Nat.le_of_ble_eq_true rfl), (Nat.le_of_ble_eq_true rfl)⟩ ⟨(Nat.le_of_ble_eq_true rfl), (Nat.le_of_ble_eq_true rfl)⟩ d_Village_addNews_10 ?_
  refine z_istore_n C d_Village_addNews_13 rfl (by decide) ?_
  refine z_iconst C d_Village_addNews_14 zki_0 ?_
  refine z_istore C d_Village_addNews_15 (by decide) ?_
  exact z_sub [2, 3, 1, 0] rfl ((w_Village_addNews C hv zK) _ _ _ _ hf)
abbrev rm_Village_owedBy : Room := { frames := 1, cells := 0, slots := 0, locals := 21 }
theorem d_Village_owedBy_0 : decode b_Village_owedBy 0 = .ok (.aload_n 0, 1) := by decide +kernel
theorem d_Village_owedBy_1 : decode b_Village_owedBy 1 = .ok (.getfield 43, 3) := by decide +kernel
theorem d_Village_owedBy_4 : decode b_Village_owedBy 4 = .ok (.getfield 131, 3) := by decide +kernel
theorem d_Village_owedBy_7 : decode b_Village_owedBy 7 = .ok (.iload_n 2, 1) := by decide +kernel
theorem d_Village_owedBy_8 : decode b_Village_owedBy 8 = .ok (.invokevirtual 134, 3) := by decide +kernel
theorem d_Village_owedBy_11 : decode b_Village_owedBy 11 = .ok (.istore_n 3, 1) := by decide +kernel
theorem d_Village_owedBy_12 : decode b_Village_owedBy 12 = .ok (.iload_n 3, 1) := by decide +kernel
theorem d_Village_owedBy_13 : decode b_Village_owedBy 13 = .ok (.iload_n 1, 1) := by decide +kernel
theorem d_Village_owedBy_14 : decode b_Village_owedBy 14 = .ok (.invokestatic 138, 3) := by decide +kernel
theorem d_Village_owedBy_17 : decode b_Village_owedBy 17 = .ok (.ifCond .eq 22, 3) := by decide +kernel
theorem d_Village_owedBy_20 : decode b_Village_owedBy 20 = .ok (.aload_n 0, 1) := by decide +kernel
theorem d_Village_owedBy_21 : decode b_Village_owedBy 21 = .ok (.getfield 63, 3) := by decide +kernel
theorem d_Village_owedBy_24 : decode b_Village_owedBy 24 = .ok (.iload_n 1, 1) := by decide +kernel
theorem d_Village_owedBy_25 : decode b_Village_owedBy 25 = .ok (.iload_n 2, 1) := by decide +kernel
theorem d_Village_owedBy_26 : decode b_Village_owedBy 26 = .ok (.invokestatic 112, 3) := by decide +kernel
theorem d_Village_owedBy_29 : decode b_Village_owedBy 29 = .ok (.invokevirtual 134, 3) := by decide +kernel
theorem d_Village_owedBy_32 : decode b_Village_owedBy 32 = .ok (.iload_n 3, 1) := by decide +kernel
theorem d_Village_owedBy_33 : decode b_Village_owedBy 33 = .ok (.iconst (-1), 1) := by decide +kernel
theorem d_Village_owedBy_34 : decode b_Village_owedBy 34 = .ok (.ixor, 1) := by decide +kernel
theorem d_Village_owedBy_35 : decode b_Village_owedBy 35 = .ok (.iand, 1) := by decide +kernel
theorem d_Village_owedBy_36 : decode b_Village_owedBy 36 = .ok (.goto 4, 3) := by decide +kernel
theorem d_Village_owedBy_39 : decode b_Village_owedBy 39 = .ok (.iconst 0, 1) := by decide +kernel
theorem d_Village_owedBy_40 : decode b_Village_owedBy 40 = .ok (.ireturn, 1) := by decide +kernel
def F_Village_owedBy (v : Nat) (a0 : Int32) (a1 : Int32) (σ : zSt) : Option (Int32) :=
  (F_Row_get v 39 a1 σ).bind fun r2 => (F_Waves_contains r2 a0 σ).bind fun r4 => if r4 = 0 then some (0 : Int32) else ((F_Waves_cell a0 a1 σ).bind fun r6 => (F_Row_get v 57 r6 σ).bind fun r8 => some (r8 &&& (r2 ^^^ (-1 : Int32))))
set_option maxHeartbeats 4000000 in
set_option maxRecDepth 100000 in
theorem c_Village_owedBy {l : Launch} {G : zLA} {v : Nat} (hv : zvl G v) {a0 : Int32} {a1 : Int32} {σ : zSt} {r : Int32} (hf : F_Village_owedBy v a0 a1 σ = some r) : zM l G y_Village_owedBy (zws y_Village_owedBy b_Village_owedBy 4 (some .int)) rm_Village_owedBy [.ref (zad G v 0), .int a0, .int a1] σ (some (.int r)) σ := by
  refine z_ofM (own := "VillageWaves$Village") (lv := [(0, .ref (zad G v 0)), (1, .int a0), (2, .int a1)]) (by decide +kernel) rfl rfl (Nat.le_of_ble_eq_true rfl) (fun p e s m args below meth c C => ?_)
  rw [F_Village_owedBy] at hf
  refine z_aload_n C d_Village_owedBy_0 0 rfl rfl ?_
  refine gf_Village_43 C (zlv hv 0 rfl) rfl rfl d_Village_owedBy_1 ?_
  refine gf_Village_131 C (zlv hv 24 rfl) rfl rfl d_Village_owedBy_4 ?_
  refine z_iload_n C d_Village_owedBy_7 2 rfl rfl ?_
  obtain ⟨r2, h1, hf⟩ := bd_s hf
  refine z_cVi C kl_Village_134 rfl (c_Row_get (zrow_v hv 39 rfl) h1) (zlv hv 39 rfl) rfl rfl rfl (Nat.le_of_ble_eq_true rfl) ⟨(Nat.le_of_ble_eq_true rfl), (Nat.le_of_ble_eq_true rfl)⟩ ⟨(Nat.le_of_ble_eq_true rfl), (Nat.le_of_ble_eq_true rfl)⟩ d_Village_owedBy_8 ?_
  refine z_istore_n C d_Village_owedBy_11 rfl (by decide) ?_
  refine z_iload_n C d_Village_owedBy_12 0 rfl rfl ?_
  refine z_iload_n C d_Village_owedBy_13 2 rfl rfl ?_
  obtain ⟨r4, h3, hf⟩ := bd_s hf
  refine z_cSNi C kl_Village_138 (c_Waves_contains h3) rfl rfl (Nat.le_of_ble_eq_true rfl) ⟨(Nat.le_of_ble_eq_true rfl), (Nat.le_of_ble_eq_true rfl)⟩ ⟨(Nat.le_of_ble_eq_true rfl), (Nat.le_of_ble_eq_true rfl)⟩ d_Village_owedBy_14 ?_
  refine z_if_eq (tgt := 39) C d_Village_owedBy_17 rfl (fun h9 => ?_) (fun h9 => ?_)
  · have hf := iff_t hf h9
    refine z_iconst C d_Village_owedBy_39 zki_0 ?_
    cases hf
    exact z_iret C rfl (Nat.le_of_ble_eq_true rfl) (Nat.le_of_ble_eq_true rfl) d_Village_owedBy_40
  · have hf := iff_f hf h9
    refine z_aload_n C d_Village_owedBy_20 1 rfl rfl ?_
    refine gf_Village_63 C (zlv hv 0 rfl) rfl rfl d_Village_owedBy_21 ?_
    refine z_iload_n C d_Village_owedBy_24 2 rfl rfl ?_
    refine z_iload_n C d_Village_owedBy_25 3 rfl rfl ?_
    obtain ⟨r6, h5, hf⟩ := bd_s hf
    refine z_cSNi C kl_Village_112 (c_Waves_cell h5) rfl rfl (Nat.le_of_ble_eq_true rfl) ⟨(Nat.le_of_ble_eq_true rfl), (Nat.le_of_ble_eq_true rfl)⟩ ⟨(Nat.le_of_ble_eq_true rfl), (Nat.le_of_ble_eq_true rfl)⟩ d_Village_owedBy_26 ?_
    obtain ⟨r8, h7, hf⟩ := bd_s hf
    refine z_cVi C kl_Village_134 rfl (c_Row_get (zrow_v hv 57 rfl) h7) (zlv hv 57 rfl) rfl rfl rfl (Nat.le_of_ble_eq_true rfl) ⟨(Nat.le_of_ble_eq_true rfl), (Nat.le_of_ble_eq_true rfl)⟩ ⟨(Nat.le_of_ble_eq_true rfl), (Nat.le_of_ble_eq_true rfl)⟩ d_Village_owedBy_29 ?_
    refine z_iload_n C d_Village_owedBy_32 0 rfl rfl ?_
    refine z_iconst C d_Village_owedBy_33 zki_m1 ?_
    refine z_ixor C d_Village_owedBy_34 ?_
    refine z_iand C d_Village_owedBy_35 ?_
    refine z_goto (tgt := 40) C d_Village_owedBy_36 rfl ?_
    cases hf
    exact z_iret C rfl (Nat.le_of_ble_eq_true rfl) (Nat.le_of_ble_eq_true rfl) d_Village_owedBy_40
abbrev rm_Village_learnCorrection : Room := { frames := 2, cells := 0, slots := 0, locals := 45 }
theorem d_Village_learnCorrection_0 : decode b_Village_learnCorrection 0 = .ok (.aload_n 0, 1) := by decide +kernel
theorem d_Village_learnCorrection_1 : decode b_Village_learnCorrection 1 = .ok (.getfield 50, 3) := by decide +kernel
theorem d_Village_learnCorrection_4 : decode b_Village_learnCorrection 4 = .ok (.iload_n 1, 1) := by decide +kernel
theorem d_Village_learnCorrection_5 : decode b_Village_learnCorrection 5 = .ok (.iload_n 2, 1) := by decide +kernel
theorem d_Village_learnCorrection_6 : decode b_Village_learnCorrection 6 = .ok (.invokevirtual 230, 3) := by decide +kernel
theorem d_Village_learnCorrection_9 : decode b_Village_learnCorrection 9 = .ok (.aload_n 0, 1) := by decide +kernel
theorem d_Village_learnCorrection_10 : decode b_Village_learnCorrection 10 = .ok (.getfield 43, 3) := by decide +kernel
theorem d_Village_learnCorrection_13 : decode b_Village_learnCorrection 13 = .ok (.getfield 131, 3) := by decide +kernel
theorem d_Village_learnCorrection_16 : decode b_Village_learnCorrection 16 = .ok (.iload_n 2, 1) := by decide +kernel
theorem d_Village_learnCorrection_17 : decode b_Village_learnCorrection 17 = .ok (.iload_n 1, 1) := by decide +kernel
theorem d_Village_learnCorrection_18 : decode b_Village_learnCorrection 18 = .ok (.invokevirtual 239, 3) := by decide +kernel
theorem d_Village_learnCorrection_21 : decode b_Village_learnCorrection 21 = .ok (.aload_n 0, 1) := by decide +kernel
theorem d_Village_learnCorrection_22 : decode b_Village_learnCorrection 22 = .ok (.iload_n 1, 1) := by decide +kernel
theorem d_Village_learnCorrection_23 : decode b_Village_learnCorrection 23 = .ok (.iload_n 2, 1) := by decide +kernel
theorem d_Village_learnCorrection_24 : decode b_Village_learnCorrection 24 = .ok (.invokevirtual 151, 3) := by decide +kernel
theorem d_Village_learnCorrection_27 : decode b_Village_learnCorrection 27 = .ok (.ifCond .eq 16, 3) := by decide +kernel
theorem d_Village_learnCorrection_30 : decode b_Village_learnCorrection 30 = .ok (.aload_n 0, 1) := by decide +kernel
theorem d_Village_learnCorrection_31 : decode b_Village_learnCorrection 31 = .ok (.getfield 54, 3) := by decide +kernel
theorem d_Village_learnCorrection_34 : decode b_Village_learnCorrection 34 = .ok (.iload_n 1, 1) := by decide +kernel
theorem d_Village_learnCorrection_35 : decode b_Village_learnCorrection 35 = .ok (.iload_n 2, 1) := by decide +kernel
theorem d_Village_learnCorrection_36 : decode b_Village_learnCorrection 36 = .ok (.aload_n 0, 1) := by decide +kernel
theorem d_Village_learnCorrection_37 : decode b_Village_learnCorrection 37 = .ok (.getfield 15, 3) := by decide +kernel
theorem d_Village_learnCorrection_40 : decode b_Village_learnCorrection 40 = .ok (.invokevirtual 116, 3) := by decide +kernel
theorem d_Village_learnCorrection_43 : decode b_Village_learnCorrection 43 = .ok (.return_, 1) := by decide +kernel
def F_Village_learnCorrection (v : Nat) (a0 : Int32) (a1 : Int32) (σ : zSt) : Option (zSt) :=
  (F_Entries_remove v 43 a0 a1 σ).bind fun σ2 => (F_Row_join v 39 a1 a0 σ2).bind fun σ4 => (F_Village_owedBy v a0 a1 σ4).bind fun r6 => if r6 = 0 then some σ4 else ((F_Entries_put v 48 a0 a1 (σ4.1 v 0 1) σ4).bind fun σ8 => some σ8)
set_option maxHeartbeats 4000000 in
set_option maxRecDepth 100000 in
theorem c_Village_learnCorrection {l : Launch} {G : zLA} {v : Nat} (hv : zvl G v) {a0 : Int32} {a1 : Int32} {σ : zSt} {σ' : zSt} (hf : F_Village_learnCorrection v a0 a1 σ = some σ') : zM l G y_Village_learnCorrection (zws y_Village_learnCorrection b_Village_learnCorrection 3 none) rm_Village_learnCorrection [.ref (zad G v 0), .int a0, .int a1] σ none σ' := by
  refine z_ofM (own := "VillageWaves$Village") (lv := [(0, .ref (zad G v 0)), (1, .int a0), (2, .int a1)]) (by decide +kernel) rfl rfl (Nat.le_of_ble_eq_true rfl) (fun p e s m args below meth c C => ?_)
  rw [F_Village_learnCorrection] at hf
  refine z_aload_n C d_Village_learnCorrection_0 0 rfl rfl ?_
  refine gf_Village_50 C (zlv hv 0 rfl) rfl rfl d_Village_learnCorrection_1 ?_
  refine z_iload_n C d_Village_learnCorrection_4 1 rfl rfl ?_
  refine z_iload_n C d_Village_learnCorrection_5 2 rfl rfl ?_
  obtain ⟨σ2, h1, hf⟩ := bd_s hf
  refine z_cVv C kl_Village_230 rfl (c_Entries_remove hv (Or.inl rfl) h1) (zlv hv 43 rfl) rfl rfl rfl (Nat.le_of_ble_eq_true rfl) ⟨(Nat.le_of_ble_eq_true rfl), (Nat.le_of_ble_eq_true rfl)⟩ ⟨(Nat.le_of_ble_eq_true rfl), (Nat.le_of_ble_eq_true rfl)⟩ d_Village_learnCorrection_6 ?_
  refine z_aload_n C d_Village_learnCorrection_9 0 rfl rfl ?_
  refine gf_Village_43 C (zlv hv 0 rfl) rfl rfl d_Village_learnCorrection_10 ?_
  refine gf_Village_131 C (zlv hv 24 rfl) rfl rfl d_Village_learnCorrection_13 ?_
  refine z_iload_n C d_Village_learnCorrection_16 2 rfl rfl ?_
  refine z_iload_n C d_Village_learnCorrection_17 1 rfl rfl ?_
  obtain ⟨σ4, h3, hf⟩ := bd_s hf
  refine z_cVv C kl_Village_239 rfl (c_Row_join (zrow_v hv 39 rfl) h3) (zlv hv 39 rfl) rfl rfl rfl (Nat.le_of_ble_eq_true rfl) ⟨(Nat.le_of_ble_eq_true rfl), (Nat.le_of_ble_eq_true rfl)⟩ ⟨(Nat.le_of_ble_eq_true rfl), (Nat.le_of_ble_eq_true rfl)⟩ d_Village_learnCorrection_18 ?_
  refine z_aload_n C d_Village_learnCorrection_21 0 rfl rfl ?_
  refine z_iload_n C d_Village_learnCorrection_22 1 rfl rfl ?_
  refine z_iload_n C d_Village_learnCorrection_23 2 rfl rfl ?_
  obtain ⟨r6, h5, hf⟩ := bd_s hf
  refine z_cVi C kl_Village_151 rfl (c_Village_owedBy hv h5) (zlv hv 0 rfl) rfl rfl rfl (Nat.le_of_ble_eq_true rfl) ⟨(Nat.le_of_ble_eq_true rfl), (Nat.le_of_ble_eq_true rfl)⟩ ⟨(Nat.le_of_ble_eq_true rfl), (Nat.le_of_ble_eq_true rfl)⟩ d_Village_learnCorrection_24 ?_
  refine z_if_eq (tgt := 43) C d_Village_learnCorrection_27 rfl (fun h9 => ?_) (fun h9 => ?_)
  · have hf := iff_t hf h9
    cases hf
    exact z_vret C rfl (Nat.le_of_ble_eq_true rfl) (Nat.le_of_ble_eq_true rfl) d_Village_learnCorrection_43
  · have hf := iff_f hf h9
    refine z_aload_n C d_Village_learnCorrection_30 0 rfl rfl ?_
    refine gf_Village_54 C (zlv hv 0 rfl) rfl rfl d_Village_learnCorrection_31 ?_
    refine z_iload_n C d_Village_learnCorrection_34 1 rfl rfl ?_
    refine z_iload_n C d_Village_learnCorrection_35 2 rfl rfl ?_
    refine z_aload_n C d_Village_learnCorrection_36 0 rfl rfl ?_
    refine gf_Village_15 C (zlv hv 0 rfl) rfl rfl d_Village_learnCorrection_37 ?_
    obtain ⟨σ8, h7, hf⟩ := bd_s hf
    refine z_cVv C kl_Village_116 rfl (c_Entries_put hv (Or.inr rfl) h7) (zlv hv 48 rfl) rfl rfl rfl (Nat.le_of_ble_eq_true rfl) ⟨(Nat.le_of_ble_eq_true rfl), (Nat.le_of_ble_eq_true rfl)⟩ ⟨(Nat.le_of_ble_eq_true rfl), (Nat.le_of_ble_eq_true rfl)⟩ d_Village_learnCorrection_40 ?_
    cases hf
    exact z_vret C rfl (Nat.le_of_ble_eq_true rfl) (Nat.le_of_ble_eq_true rfl) d_Village_learnCorrection_43
abbrev rm_Village_addCorrection : Room := { frames := 3, cells := 0, slots := 0, locals := 67 }
theorem d_Village_addCorrection_0 : decode b_Village_addCorrection 0 = .ok (.aload_n 0, 1) := by decide +kernel
theorem d_Village_addCorrection_1 : decode b_Village_addCorrection 1 = .ok (.getfield 43, 3) := by decide +kernel
theorem d_Village_addCorrection_4 : decode b_Village_addCorrection 4 = .ok (.getfield 119, 3) := by decide +kernel
theorem d_Village_addCorrection_7 : decode b_Village_addCorrection 7 = .ok (.iload_n 2, 1) := by decide +kernel
theorem d_Village_addCorrection_8 : decode b_Village_addCorrection 8 = .ok (.iload_n 3, 1) := by decide +kernel
theorem d_Village_addCorrection_9 : decode b_Village_addCorrection 9 = .ok (.invokevirtual 84, 3) := by decide +kernel
theorem d_Village_addCorrection_12 : decode b_Village_addCorrection 12 = .ok (.aload_n 0, 1) := by decide +kernel
theorem d_Village_addCorrection_13 : decode b_Village_addCorrection 13 = .ok (.getfield 43, 3) := by decide +kernel
theorem d_Village_addCorrection_16 : decode b_Village_addCorrection 16 = .ok (.getfield 122, 3) := by decide +kernel
theorem d_Village_addCorrection_19 : decode b_Village_addCorrection 19 = .ok (.iload_n 2, 1) := by decide +kernel
theorem d_Village_addCorrection_20 : decode b_Village_addCorrection 20 = .ok (.iload_n 1, 1) := by decide +kernel
theorem d_Village_addCorrection_21 : decode b_Village_addCorrection 21 = .ok (.invokevirtual 84, 3) := by decide +kernel
theorem d_Village_addCorrection_24 : decode b_Village_addCorrection 24 = .ok (.aload_n 0, 1) := by decide +kernel
theorem d_Village_addCorrection_25 : decode b_Village_addCorrection 25 = .ok (.getfield 43, 3) := by decide +kernel
theorem d_Village_addCorrection_28 : decode b_Village_addCorrection 28 = .ok (.getfield 125, 3) := by decide +kernel
theorem d_Village_addCorrection_31 : decode b_Village_addCorrection 31 = .ok (.iload_n 2, 1) := by decide +kernel
theorem d_Village_addCorrection_32 : decode b_Village_addCorrection 32 = .ok (.aload_n 0, 1) := by decide +kernel
theorem d_Village_addCorrection_33 : decode b_Village_addCorrection 33 = .ok (.getfield 15, 3) := by decide +kernel
theorem d_Village_addCorrection_36 : decode b_Village_addCorrection 36 = .ok (.invokevirtual 84, 3) := by decide +kernel
theorem d_Village_addCorrection_39 : decode b_Village_addCorrection 39 = .ok (.aload_n 0, 1) := by decide +kernel
theorem d_Village_addCorrection_40 : decode b_Village_addCorrection 40 = .ok (.iload_n 1, 1) := by decide +kernel
theorem d_Village_addCorrection_41 : decode b_Village_addCorrection 41 = .ok (.iload_n 2, 1) := by decide +kernel
theorem d_Village_addCorrection_42 : decode b_Village_addCorrection 42 = .ok (.invokevirtual 128, 3) := by decide +kernel
theorem d_Village_addCorrection_45 : decode b_Village_addCorrection 45 = .ok (.return_, 1) := by decide +kernel
def F_Village_addCorrection (v : Nat) (a0 : Int32) (a1 : Int32) (a2 : Int32) (σ : zSt) : Option (zSt) :=
  (F_Row_put v 31 a1 a2 σ).bind fun σ2 => (F_Row_put v 33 a1 a0 σ2).bind fun σ4 => (F_Row_put v 35 a1 (σ4.1 v 0 1) σ4).bind fun σ6 => (F_Village_learnCorrection v a0 a1 σ6).bind fun σ8 => some σ8
set_option maxHeartbeats 4000000 in
set_option maxRecDepth 100000 in
theorem c_Village_addCorrection {l : Launch} {G : zLA} {v : Nat} (hv : zvl G v) {a0 : Int32} {a1 : Int32} {a2 : Int32} {σ : zSt} {σ' : zSt} (hf : F_Village_addCorrection v a0 a1 a2 σ = some σ') : zM l G y_Village_addCorrection (zws y_Village_addCorrection b_Village_addCorrection 4 none) rm_Village_addCorrection [.ref (zad G v 0), .int a0, .int a1, .int a2] σ none σ' := by
  refine z_ofM (own := "VillageWaves$Village") (lv := [(0, .ref (zad G v 0)), (1, .int a0), (2, .int a1), (3, .int a2)]) (by decide +kernel) rfl rfl (Nat.le_of_ble_eq_true rfl) (fun p e s m args below meth c C => ?_)
  rw [F_Village_addCorrection] at hf
  refine z_aload_n C d_Village_addCorrection_0 0 rfl rfl ?_
  refine gf_Village_43 C (zlv hv 0 rfl) rfl rfl d_Village_addCorrection_1 ?_
  refine gf_Village_119 C (zlv hv 24 rfl) rfl rfl d_Village_addCorrection_4 ?_
  refine z_iload_n C d_Village_addCorrection_7 2 rfl rfl ?_
  refine z_iload_n C d_Village_addCorrection_8 3 rfl rfl ?_
  obtain ⟨σ2, h1, hf⟩ := bd_s hf
  refine z_cVv C kl_Village_84 rfl (c_Row_put (zrow_v hv 31 rfl) h1) (zlv hv 31 rfl) rfl rfl rfl (Nat.le_of_ble_eq_true rfl) ⟨(Nat.le_of_ble_eq_true rfl), (Nat.le_of_ble_eq_true rfl)⟩ ⟨(Nat.le_of_ble_eq_true rfl), (Nat.le_of_ble_eq_true rfl)⟩ d_Village_addCorrection_9 ?_
  refine z_aload_n C d_Village_addCorrection_12 0 rfl rfl ?_
  refine gf_Village_43 C (zlv hv 0 rfl) rfl rfl d_Village_addCorrection_13 ?_
  refine gf_Village_122 C (zlv hv 24 rfl) rfl rfl d_Village_addCorrection_16 ?_
  refine z_iload_n C d_Village_addCorrection_19 2 rfl rfl ?_
  refine z_iload_n C d_Village_addCorrection_20 1 rfl rfl ?_
  obtain ⟨σ4, h3, hf⟩ := bd_s hf
  refine z_cVv C kl_Village_84 rfl (c_Row_put (zrow_v hv 33 rfl) h3) (zlv hv 33 rfl) rfl rfl rfl (Nat.le_of_ble_eq_true rfl) ⟨(Nat.le_of_ble_eq_true rfl), (Nat.le_of_ble_eq_true rfl)⟩ ⟨(Nat.le_of_ble_eq_true rfl), (Nat.le_of_ble_eq_true rfl)⟩ d_Village_addCorrection_21 ?_
  refine z_aload_n C d_Village_addCorrection_24 0 rfl rfl ?_
  refine gf_Village_43 C (zlv hv 0 rfl) rfl rfl d_Village_addCorrection_25 ?_
  refine gf_Village_125 C (zlv hv 24 rfl) rfl rfl d_Village_addCorrection_28 ?_
  refine z_iload_n C d_Village_addCorrection_31 2 rfl rfl ?_
  refine z_aload_n C d_Village_addCorrection_32 0 rfl rfl ?_
  refine gf_Village_15 C (zlv hv 0 rfl) rfl rfl d_Village_addCorrection_33 ?_
  obtain ⟨σ6, h5, hf⟩ := bd_s hf
  refine z_cVv C kl_Village_84 rfl (c_Row_put (zrow_v hv 35 rfl) h5) (zlv hv 35 rfl) rfl rfl rfl (Nat.le_of_ble_eq_true rfl) ⟨(Nat.le_of_ble_eq_true rfl), (Nat.le_of_ble_eq_true rfl)⟩ ⟨(Nat.le_of_ble_eq_true rfl), (Nat.le_of_ble_eq_true rfl)⟩ d_Village_addCorrection_36 ?_
  refine z_aload_n C d_Village_addCorrection_39 0 rfl rfl ?_
  refine z_iload_n C d_Village_addCorrection_40 1 rfl rfl ?_
  refine z_iload_n C d_Village_addCorrection_41 2 rfl rfl ?_
  obtain ⟨σ8, h7, hf⟩ := bd_s hf
  refine z_cVv C kl_Village_128 rfl (c_Village_learnCorrection hv h7) (zlv hv 0 rfl) rfl rfl rfl (Nat.le_of_ble_eq_true rfl) ⟨(Nat.le_of_ble_eq_true rfl), (Nat.le_of_ble_eq_true rfl)⟩ ⟨(Nat.le_of_ble_eq_true rfl), (Nat.le_of_ble_eq_true rfl)⟩ d_Village_addCorrection_42 ?_
  cases hf
  exact z_vret C rfl (Nat.le_of_ble_eq_true rfl) (Nat.le_of_ble_eq_true rfl) d_Village_addCorrection_45
abbrev rm_Village_sendableCorrections : Room := { frames := 2, cells := 0, slots := 0, locals := 44 }
theorem d_Village_sendableCorrections_0 : decode b_Village_sendableCorrections 0 = .ok (.aload_n 0, 1) := by decide +kernel
theorem d_Village_sendableCorrections_1 : decode b_Village_sendableCorrections 1 = .ok (.getfield 54, 3) := by decide +kernel
theorem d_Village_sendableCorrections_4 : decode b_Village_sendableCorrections 4 = .ok (.getfield 142, 3) := by decide +kernel
theorem d_Village_sendableCorrections_7 : decode b_Village_sendableCorrections 7 = .ok (.iload_n 1, 1) := by decide +kernel
theorem d_Village_sendableCorrections_8 : decode b_Village_sendableCorrections 8 = .ok (.invokevirtual 134, 3) := by decide +kernel
theorem d_Village_sendableCorrections_11 : decode b_Village_sendableCorrections 11 = .ok (.istore_n 2, 1) := by decide +kernel
theorem d_Village_sendableCorrections_12 : decode b_Village_sendableCorrections 12 = .ok (.iload_n 2, 1) := by decide +kernel
theorem d_Village_sendableCorrections_13 : decode b_Village_sendableCorrections 13 = .ok (.ifCond .ne 5, 3) := by decide +kernel
theorem d_Village_sendableCorrections_16 : decode b_Village_sendableCorrections 16 = .ok (.iconst 0, 1) := by decide +kernel
theorem d_Village_sendableCorrections_17 : decode b_Village_sendableCorrections 17 = .ok (.ireturn, 1) := by decide +kernel
theorem d_Village_sendableCorrections_18 : decode b_Village_sendableCorrections 18 = .ok (.aload_n 0, 1) := by decide +kernel
theorem d_Village_sendableCorrections_19 : decode b_Village_sendableCorrections 19 = .ok (.getfield 36, 3) := by decide +kernel
theorem d_Village_sendableCorrections_22 : decode b_Village_sendableCorrections 22 = .ok (.getfield 145, 3) := by decide +kernel
theorem d_Village_sendableCorrections_25 : decode b_Village_sendableCorrections 25 = .ok (.iload_n 1, 1) := by decide +kernel
theorem d_Village_sendableCorrections_26 : decode b_Village_sendableCorrections 26 = .ok (.invokevirtual 134, 3) := by decide +kernel
theorem d_Village_sendableCorrections_29 : decode b_Village_sendableCorrections 29 = .ok (.istore_n 3, 1) := by decide +kernel
theorem d_Village_sendableCorrections_30 : decode b_Village_sendableCorrections 30 = .ok (.iconst 0, 1) := by decide +kernel
theorem d_Village_sendableCorrections_31 : decode b_Village_sendableCorrections 31 = .ok (.istore 4, 2) := by decide +kernel
theorem d_Village_sendableCorrections_33 : decode b_Village_sendableCorrections 33 = .ok (.iconst 0, 1) := by decide +kernel
theorem d_Village_sendableCorrections_34 : decode b_Village_sendableCorrections 34 = .ok (.istore 5, 2) := by decide +kernel
theorem d_Village_sendableCorrections_36 : decode b_Village_sendableCorrections 36 = .ok (.iload 5, 2) := by decide +kernel
theorem d_Village_sendableCorrections_38 : decode b_Village_sendableCorrections 38 = .ok (.aload_n 0, 1) := by decide +kernel
theorem d_Village_sendableCorrections_39 : decode b_Village_sendableCorrections 39 = .ok (.getfield 43, 3) := by decide +kernel
theorem d_Village_sendableCorrections_42 : decode b_Village_sendableCorrections 42 = .ok (.getfield 148, 3) := by decide +kernel
theorem d_Village_sendableCorrections_45 : decode b_Village_sendableCorrections 45 = .ok (.if_icmp .ge 40, 3) := by decide +kernel
theorem d_Village_sendableCorrections_48 : decode b_Village_sendableCorrections 48 = .ok (.iload_n 2, 1) := by decide +kernel
theorem d_Village_sendableCorrections_49 : decode b_Village_sendableCorrections 49 = .ok (.iload 5, 2) := by decide +kernel
theorem d_Village_sendableCorrections_51 : decode b_Village_sendableCorrections 51 = .ok (.invokestatic 138, 3) := by decide +kernel
theorem d_Village_sendableCorrections_54 : decode b_Village_sendableCorrections 54 = .ok (.ifCond .eq 25, 3) := by decide +kernel
theorem d_Village_sendableCorrections_57 : decode b_Village_sendableCorrections 57 = .ok (.aload_n 0, 1) := by decide +kernel
theorem d_Village_sendableCorrections_58 : decode b_Village_sendableCorrections 58 = .ok (.iload_n 1, 1) := by decide +kernel
theorem d_Village_sendableCorrections_59 : decode b_Village_sendableCorrections 59 = .ok (.iload 5, 2) := by decide +kernel
theorem d_Village_sendableCorrections_61 : decode b_Village_sendableCorrections 61 = .ok (.invokevirtual 151, 3) := by decide +kernel
theorem d_Village_sendableCorrections_64 : decode b_Village_sendableCorrections 64 = .ok (.iload_n 3, 1) := by decide +kernel
theorem d_Village_sendableCorrections_65 : decode b_Village_sendableCorrections 65 = .ok (.iand, 1) := by decide +kernel
theorem d_Village_sendableCorrections_66 : decode b_Village_sendableCorrections 66 = .ok (.ifCond .eq 13, 3) := by decide +kernel
theorem d_Village_sendableCorrections_69 : decode b_Village_sendableCorrections 69 = .ok (.iload 4, 2) := by decide +kernel
theorem d_Village_sendableCorrections_71 : decode b_Village_sendableCorrections 71 = .ok (.iload 5, 2) := by decide +kernel
theorem d_Village_sendableCorrections_73 : decode b_Village_sendableCorrections 73 = .ok (.invokestatic 154, 3) := by decide +kernel
theorem d_Village_sendableCorrections_76 : decode b_Village_sendableCorrections 76 = .ok (.ior, 1) := by decide +kernel
theorem d_Village_sendableCorrections_77 : decode b_Village_sendableCorrections 77 = .ok (.istore 4, 2) := by decide +kernel
theorem d_Village_sendableCorrections_79 : decode b_Village_sendableCorrections 79 = .ok (.iinc 5 1, 3) := by decide +kernel
theorem d_Village_sendableCorrections_82 : decode b_Village_sendableCorrections 82 = .ok (.goto (-46), 3) := by decide +kernel
theorem d_Village_sendableCorrections_85 : decode b_Village_sendableCorrections 85 = .ok (.iload 4, 2) := by decide +kernel
theorem d_Village_sendableCorrections_87 : decode b_Village_sendableCorrections 87 = .ok (.ireturn, 1) := by decide +kernel
def L_Village_sendableCorrections (v : Nat) (σ : zSt) : Nat → Nat → Int32 → Int32 → Int32 → Int32 → Int32 → Option (Int32)
  | 0, _, _, _, _, _, _ => none
  | n + 1, 0, x1, x2, x3, x4, x5 => if (σ.1 v 24 0) ≤ x5 then some x4 else ((F_Waves_contains x2 x5 σ).bind fun r7 => if r7 = 0 then L_Village_sendableCorrections v σ n 0 x1 x2 x3 x4 (x5 + (1 : Int32)) else ((F_Village_owedBy v x1 x5 σ).bind fun r9 => if (r9 &&& x3) = 0 then L_Village_sendableCorrections v σ n 0 x1 x2 x3 x4 (x5 + (1 : Int32)) else ((F_Waves_bit x5 σ).bind fun r11 => L_Village_sendableCorrections v σ n 0 x1 x2 x3 (x4 ||| r11) (x5 + (1 : Int32)))))
  | _ + 1, _, _, _, _, _, _ => none
theorem e_Village_sendableCorrections_0 (v : Nat) (σ : zSt) (n : Nat) (x1 : Int32) (x2 : Int32) (x3 : Int32) (x4 : Int32) (x5 : Int32) : L_Village_sendableCorrections v σ (n + 1) 0 x1 x2 x3 x4 x5 = (if (σ.1 v 24 0) ≤ x5 then some x4 else ((F_Waves_contains x2 x5 σ).bind fun r7 => if r7 = 0 then L_Village_sendableCorrections v σ n 0 x1 x2 x3 x4 (x5 + (1 : Int32)) else ((F_Village_owedBy v x1 x5 σ).bind fun r9 => if (r9 &&& x3) = 0 then L_Village_sendableCorrections v σ n 0 x1 x2 x3 x4 (x5 + (1 : Int32)) else ((F_Waves_bit x5 σ).bind fun r11 => L_Village_sendableCorrections v σ n 0 x1 x2 x3 (x4 ||| r11) (x5 + (1 : Int32)))))) := rfl
set_option maxHeartbeats 4000000 in
set_option maxRecDepth 100000 in
theorem w_Village_sendableCorrections {l : Launch} {G : zLA} {p : Program} {e : Env} {s : State} {m : MethodId} {args : Array Value} {below : List Frame} {meth : Method} {c : Code} (C : zCx G p s m args meth c "VillageWaves$Village" b_Village_sendableCorrections 6 (some .int)) {v : Nat} (hv : zvl G v) {σ : zSt} {r : Int32} : ∀ n : Nat, (∀ (x1 : Int32) (x2 : Int32) (x3 : Int32) (x4 : Int32) (x5 : Int32), L_Village_sendableCorrections v σ n 0 x1 x2 x3 x4 x5 = some r → zWV G p l e rm_Village_sendableCorrections s m args below meth c 6 0 0 (zQ G below args s rm_Village_sendableCorrections (some (.int r)) σ) 36 [(0, .ref (zad G v 0)), (1, .int x1), (2, .int x2), (3, .int x3), (4, .int x4), (5, .int x5)] [] σ) := by
  intro n
  induction n with
  | zero => exact fun _ _ _ _ _ hf => (by cases hf)
  | succ n ih =>
    refine ?_
    · intro x1 x2 x3 x4 x5 hf
      rw [e_Village_sendableCorrections_0] at hf
      refine z_iload C d_Village_sendableCorrections_36 5 rfl ?_
      refine z_aload_n C d_Village_sendableCorrections_38 0 rfl rfl ?_
      refine gf_Village_43 C (zlv hv 0 rfl) rfl rfl d_Village_sendableCorrections_39 ?_
      refine gf_Village_148 C (zlv hv 24 rfl) rfl rfl d_Village_sendableCorrections_42 ?_
      refine z_icmp_ge (tgt := 85) C d_Village_sendableCorrections_45 rfl (fun h14 => ?_) (fun h14 => ?_)
      · have hf := iff_t hf h14
        refine z_iload C d_Village_sendableCorrections_85 4 rfl ?_
        cases hf
        exact z_iret C rfl (Nat.le_of_ble_eq_true rfl) (Nat.le_of_ble_eq_true rfl) d_Village_sendableCorrections_87
      · have hf := iff_f hf h14
        refine z_iload_n C d_Village_sendableCorrections_48 2 rfl rfl ?_
        refine z_iload C d_Village_sendableCorrections_49 5 rfl ?_
        obtain ⟨r7, h6, hf⟩ := bd_s hf
        refine z_cSNi C kl_Village_138 (c_Waves_contains h6) rfl rfl (Nat.le_of_ble_eq_true rfl) ⟨(Nat.le_of_ble_eq_true rfl), (Nat.le_of_ble_eq_true rfl)⟩ ⟨(Nat.le_of_ble_eq_true rfl), (Nat.le_of_ble_eq_true rfl)⟩ d_Village_sendableCorrections_51 ?_
        refine z_if_eq (tgt := 79) C d_Village_sendableCorrections_54 rfl (fun h13 => ?_) (fun h13 => ?_)
        · have hf := iff_t hf h13
          refine z_iinc C d_Village_sendableCorrections_79 5 rfl zki_1 (by decide) ?_
          refine z_goto (tgt := 36) C d_Village_sendableCorrections_82 rfl ?_
          exact z_sub [1, 2, 3, 4, 5, 0] rfl (ih _ _ _ _ _ hf)
        · have hf := iff_f hf h13
          refine z_aload_n C d_Village_sendableCorrections_57 0 rfl rfl ?_
          refine z_iload_n C d_Village_sendableCorrections_58 1 rfl rfl ?_
          refine z_iload C d_Village_sendableCorrections_59 5 rfl ?_
          obtain ⟨r9, h8, hf⟩ := bd_s hf
          refine z_cVi C kl_Village_151 rfl (c_Village_owedBy hv h8) (zlv hv 0 rfl) rfl rfl rfl (Nat.le_of_ble_eq_true rfl) ⟨(Nat.le_of_ble_eq_true rfl), (Nat.le_of_ble_eq_true rfl)⟩ ⟨(Nat.le_of_ble_eq_true rfl), (Nat.le_of_ble_eq_true rfl)⟩ d_Village_sendableCorrections_61 ?_
          refine z_iload_n C d_Village_sendableCorrections_64 3 rfl rfl ?_
          refine z_iand C d_Village_sendableCorrections_65 ?_
          refine z_if_eq (tgt := 79) C d_Village_sendableCorrections_66 rfl (fun h12 => ?_) (fun h12 => ?_)
          · have hf := iff_t hf h12
            refine z_iinc C d_Village_sendableCorrections_79 5 rfl zki_1 (by decide) ?_
            refine z_goto (tgt := 36) C d_Village_sendableCorrections_82 rfl ?_
            exact z_sub [1, 2, 3, 4, 5, 0] rfl (ih _ _ _ _ _ hf)
          · have hf := iff_f hf h12
            refine z_iload C d_Village_sendableCorrections_69 4 rfl ?_
            refine z_iload C d_Village_sendableCorrections_71 5 rfl ?_
            obtain ⟨r11, h10, hf⟩ := bd_s hf
            refine z_cSNi C kl_Village_154 (c_Waves_bit h10) rfl rfl (Nat.le_of_ble_eq_true rfl) ⟨(Nat.le_of_ble_eq_true rfl), (Nat.le_of_ble_eq_true rfl)⟩ ⟨(Nat.le_of_ble_eq_true rfl), (Nat.le_of_ble_eq_true rfl)⟩ d_Village_sendableCorrections_73 ?_
            refine z_ior C d_Village_sendableCorrections_76 ?_
            refine z_istore C d_Village_sendableCorrections_77 (by decide) ?_
            refine z_iinc C d_Village_sendableCorrections_79 5 rfl zki_1 (by decide) ?_
            refine z_goto (tgt := 36) C d_Village_sendableCorrections_82 rfl ?_
            exact z_sub [2, 3, 4, 5, 1, 0] rfl (ih _ _ _ _ _ hf)
def F_Village_sendableCorrections (v : Nat) (a0 : Int32) (σ : zSt) : Option (Int32) :=
  (F_Row_get v 49 a0 σ).bind fun r2 => if r2 = 0 then some (0 : Int32) else ((F_Row_get v 22 a0 σ).bind fun r4 => L_Village_sendableCorrections v σ zK 0 a0 r2 r4 (0 : Int32) (0 : Int32))
set_option maxHeartbeats 4000000 in
set_option maxRecDepth 100000 in
theorem c_Village_sendableCorrections {l : Launch} {G : zLA} {v : Nat} (hv : zvl G v) {a0 : Int32} {σ : zSt} {r : Int32} (hf : F_Village_sendableCorrections v a0 σ = some r) : zM l G y_Village_sendableCorrections (zws y_Village_sendableCorrections b_Village_sendableCorrections 6 (some .int)) rm_Village_sendableCorrections [.ref (zad G v 0), .int a0] σ (some (.int r)) σ := by
  refine z_ofM (own := "VillageWaves$Village") (lv := [(0, .ref (zad G v 0)), (1, .int a0)]) (by decide +kernel) rfl rfl (Nat.le_of_ble_eq_true rfl) (fun p e s m args below meth c C => ?_)
  rw [F_Village_sendableCorrections] at hf
  refine z_aload_n C d_Village_sendableCorrections_0 0 rfl rfl ?_
  refine gf_Village_54 C (zlv hv 0 rfl) rfl rfl d_Village_sendableCorrections_1 ?_
  refine gf_Village_142 C (zlv hv 48 rfl) rfl rfl d_Village_sendableCorrections_4 ?_
  refine z_iload_n C d_Village_sendableCorrections_7 1 rfl rfl ?_
  obtain ⟨r2, h1, hf⟩ := bd_s hf
  refine z_cVi C kl_Village_134 rfl (c_Row_get (zrow_v hv 49 rfl) h1) (zlv hv 49 rfl) rfl rfl rfl (Nat.le_of_ble_eq_true rfl) ⟨(Nat.le_of_ble_eq_true rfl), (Nat.le_of_ble_eq_true rfl)⟩ ⟨(Nat.le_of_ble_eq_true rfl), (Nat.le_of_ble_eq_true rfl)⟩ d_Village_sendableCorrections_8 ?_
  refine z_istore_n C d_Village_sendableCorrections_11 rfl (by decide) ?_
  refine z_iload_n C d_Village_sendableCorrections_12 0 rfl rfl ?_
  refine z_if_ne (tgt := 18) C d_Village_sendableCorrections_13 rfl (fun h5 => ?_) (fun h5 => ?_)
  · have hf := iff_f hf h5
    refine z_aload_n C d_Village_sendableCorrections_18 1 rfl rfl ?_
    refine gf_Village_36 C (zlv hv 0 rfl) rfl rfl d_Village_sendableCorrections_19 ?_
    refine gf_Village_145 C (zlv hv 3 rfl) rfl rfl d_Village_sendableCorrections_22 ?_
    refine z_iload_n C d_Village_sendableCorrections_25 2 rfl rfl ?_
    obtain ⟨r4, h3, hf⟩ := bd_s hf
    refine z_cVi C kl_Village_134 rfl (c_Row_get (zrow_v hv 22 rfl) h3) (zlv hv 22 rfl) rfl rfl rfl (Nat.le_of_ble_eq_true rfl) ⟨(Nat.le_of_ble_eq_true rfl), (Nat.le_of_ble_eq_true rfl)⟩ ⟨(Nat.le_of_ble_eq_true rfl), (Nat.le_of_ble_eq_true rfl)⟩ d_Village_sendableCorrections_26 ?_
    refine z_istore_n C d_Village_sendableCorrections_29 rfl (by decide) ?_
    refine z_iconst C d_Village_sendableCorrections_30 zki_0 ?_
    refine z_istore C d_Village_sendableCorrections_31 (by decide) ?_
    refine z_iconst C d_Village_sendableCorrections_33 zki_0 ?_
    refine z_istore C d_Village_sendableCorrections_34 (by decide) ?_
    exact z_sub [4, 5, 3, 2, 1, 0] rfl ((w_Village_sendableCorrections C hv zK) _ _ _ _ _ hf)
  · have hf := iff_t hf h5
    refine z_iconst C d_Village_sendableCorrections_16 zki_0 ?_
    cases hf
    exact z_iret C rfl (Nat.le_of_ble_eq_true rfl) (Nat.le_of_ble_eq_true rfl) d_Village_sendableCorrections_17
abbrev rm_Village_beginDay : Room := { frames := 3, cells := 0, slots := 0, locals := 68 }
theorem d_Village_beginDay_0 : decode b_Village_beginDay 0 = .ok (.aload_n 0, 1) := by decide +kernel
theorem d_Village_beginDay_1 : decode b_Village_beginDay 1 = .ok (.getfield 15, 3) := by decide +kernel
theorem d_Village_beginDay_4 : decode b_Village_beginDay 4 = .ok (.ifCond .eq 25, 3) := by decide +kernel
theorem d_Village_beginDay_7 : decode b_Village_beginDay 7 = .ok (.aload_n 0, 1) := by decide +kernel
theorem d_Village_beginDay_8 : decode b_Village_beginDay 8 = .ok (.invokevirtual 185, 3) := by decide +kernel
theorem d_Village_beginDay_11 : decode b_Village_beginDay 11 = .ok (.ifCond .ne 18, 3) := by decide +kernel
theorem d_Village_beginDay_14 : decode b_Village_beginDay 14 = .ok (.aload_n 0, 1) := by decide +kernel
theorem d_Village_beginDay_15 : decode b_Village_beginDay 15 = .ok (.getfield 36, 3) := by decide +kernel
theorem d_Village_beginDay_18 : decode b_Village_beginDay 18 = .ok (.aload_n 0, 1) := by decide +kernel
theorem d_Village_beginDay_19 : decode b_Village_beginDay 19 = .ok (.getfield 29, 3) := by decide +kernel
theorem d_Village_beginDay_22 : decode b_Village_beginDay 22 = .ok (.iconst 2, 1) := by decide +kernel
theorem d_Village_beginDay_23 : decode b_Village_beginDay 23 = .ok (.invokevirtual 134, 3) := by decide +kernel
theorem d_Village_beginDay_26 : decode b_Village_beginDay 26 = .ok (.invokevirtual 188, 3) := by decide +kernel
theorem d_Village_beginDay_29 : decode b_Village_beginDay 29 = .ok (.return_, 1) := by decide +kernel
def F_Village_beginDay (v : Nat) (σ : zSt) : Option (zSt) :=
  if (σ.1 v 0 1) = 0 then some σ else ((F_Village_minuteOfDay v σ).bind fun r2 => if r2 = 0 then ((F_Row_get v 1 (2 : Int32) σ).bind fun r4 => (F_Homes_beginDay v r4 σ).bind fun σ6 => some σ6) else some σ)
set_option maxHeartbeats 4000000 in
set_option maxRecDepth 100000 in
theorem c_Village_beginDay {l : Launch} {G : zLA} {v : Nat} (hv : zvl G v) {σ : zSt} {σ' : zSt} (hf : F_Village_beginDay v σ = some σ') : zM l G y_Village_beginDay (zws y_Village_beginDay b_Village_beginDay 1 none) rm_Village_beginDay [.ref (zad G v 0)] σ none σ' := by
  refine z_ofM (own := "VillageWaves$Village") (lv := [(0, .ref (zad G v 0))]) (by decide +kernel) rfl rfl (Nat.le_of_ble_eq_true rfl) (fun p e s m args below meth c C => ?_)
  rw [F_Village_beginDay] at hf
  refine z_aload_n C d_Village_beginDay_0 0 rfl rfl ?_
  refine gf_Village_15 C (zlv hv 0 rfl) rfl rfl d_Village_beginDay_1 ?_
  refine z_if_eq (tgt := 29) C d_Village_beginDay_4 rfl (fun h8 => ?_) (fun h8 => ?_)
  · have hf := iff_t hf h8
    cases hf
    exact z_vret C rfl (Nat.le_of_ble_eq_true rfl) (Nat.le_of_ble_eq_true rfl) d_Village_beginDay_29
  · have hf := iff_f hf h8
    refine z_aload_n C d_Village_beginDay_7 0 rfl rfl ?_
    obtain ⟨r2, h1, hf⟩ := bd_s hf
    refine z_cVi C kl_Village_185 rfl (c_Village_minuteOfDay hv h1) (zlv hv 0 rfl) rfl rfl rfl (Nat.le_of_ble_eq_true rfl) ⟨(Nat.le_of_ble_eq_true rfl), (Nat.le_of_ble_eq_true rfl)⟩ ⟨(Nat.le_of_ble_eq_true rfl), (Nat.le_of_ble_eq_true rfl)⟩ d_Village_beginDay_8 ?_
    refine z_if_ne (tgt := 29) C d_Village_beginDay_11 rfl (fun h7 => ?_) (fun h7 => ?_)
    · have hf := iff_f hf h7
      cases hf
      exact z_vret C rfl (Nat.le_of_ble_eq_true rfl) (Nat.le_of_ble_eq_true rfl) d_Village_beginDay_29
    · have hf := iff_t hf h7
      refine z_aload_n C d_Village_beginDay_14 0 rfl rfl ?_
      refine gf_Village_36 C (zlv hv 0 rfl) rfl rfl d_Village_beginDay_15 ?_
      refine z_aload_n C d_Village_beginDay_18 0 rfl rfl ?_
      refine gf_Village_29 C (zlv hv 0 rfl) rfl rfl d_Village_beginDay_19 ?_
      refine z_iconst C d_Village_beginDay_22 zki_2 ?_
      obtain ⟨r4, h3, hf⟩ := bd_s hf
      refine z_cVi C kl_Village_134 rfl (c_Row_get (zrow_v hv 1 rfl) h3) (zlv hv 1 rfl) rfl rfl rfl (Nat.le_of_ble_eq_true rfl) ⟨(Nat.le_of_ble_eq_true rfl), (Nat.le_of_ble_eq_true rfl)⟩ ⟨(Nat.le_of_ble_eq_true rfl), (Nat.le_of_ble_eq_true rfl)⟩ d_Village_beginDay_23 ?_
      obtain ⟨σ6, h5, hf⟩ := bd_s hf
      refine z_cVv C kl_Village_188 rfl (c_Homes_beginDay hv h5) (zlv hv 3 rfl) rfl rfl rfl (Nat.le_of_ble_eq_true rfl) ⟨(Nat.le_of_ble_eq_true rfl), (Nat.le_of_ble_eq_true rfl)⟩ ⟨(Nat.le_of_ble_eq_true rfl), (Nat.le_of_ble_eq_true rfl)⟩ d_Village_beginDay_26 ?_
      cases hf
      exact z_vret C rfl (Nat.le_of_ble_eq_true rfl) (Nat.le_of_ble_eq_true rfl) d_Village_beginDay_29
abbrev rm_Village_maySpeak : Room := { frames := 2, cells := 0, slots := 0, locals := 45 }
theorem d_Village_maySpeak_0 : decode b_Village_maySpeak 0 = .ok (.aload_n 0, 1) := by decide +kernel
theorem d_Village_maySpeak_1 : decode b_Village_maySpeak 1 = .ok (.getfield 36, 3) := by decide +kernel
theorem d_Village_maySpeak_4 : decode b_Village_maySpeak 4 = .ok (.getfield 194, 3) := by decide +kernel
theorem d_Village_maySpeak_7 : decode b_Village_maySpeak 7 = .ok (.iload_n 1, 1) := by decide +kernel
theorem d_Village_maySpeak_8 : decode b_Village_maySpeak 8 = .ok (.invokevirtual 134, 3) := by decide +kernel
theorem d_Village_maySpeak_11 : decode b_Village_maySpeak 11 = .ok (.aload_n 0, 1) := by decide +kernel
theorem d_Village_maySpeak_12 : decode b_Village_maySpeak 12 = .ok (.getfield 29, 3) := by decide +kernel
theorem d_Village_maySpeak_15 : decode b_Village_maySpeak 15 = .ok (.iconst 0, 1) := by decide +kernel
theorem d_Village_maySpeak_16 : decode b_Village_maySpeak 16 = .ok (.invokevirtual 134, 3) := by decide +kernel
theorem d_Village_maySpeak_19 : decode b_Village_maySpeak 19 = .ok (.if_icmp .lt 41, 3) := by decide +kernel
theorem d_Village_maySpeak_22 : decode b_Village_maySpeak 22 = .ok (.aload_n 0, 1) := by decide +kernel
theorem d_Village_maySpeak_23 : decode b_Village_maySpeak 23 = .ok (.getfield 36, 3) := by decide +kernel
theorem d_Village_maySpeak_26 : decode b_Village_maySpeak 26 = .ok (.getfield 197, 3) := by decide +kernel
theorem d_Village_maySpeak_29 : decode b_Village_maySpeak 29 = .ok (.iload_n 1, 1) := by decide +kernel
theorem d_Village_maySpeak_30 : decode b_Village_maySpeak 30 = .ok (.invokevirtual 134, 3) := by decide +kernel
theorem d_Village_maySpeak_33 : decode b_Village_maySpeak 33 = .ok (.aload_n 0, 1) := by decide +kernel
theorem d_Village_maySpeak_34 : decode b_Village_maySpeak 34 = .ok (.getfield 29, 3) := by decide +kernel
theorem d_Village_maySpeak_37 : decode b_Village_maySpeak 37 = .ok (.iconst 3, 1) := by decide +kernel
theorem d_Village_maySpeak_38 : decode b_Village_maySpeak 38 = .ok (.invokevirtual 134, 3) := by decide +kernel
theorem d_Village_maySpeak_41 : decode b_Village_maySpeak 41 = .ok (.if_icmp .ge 19, 3) := by decide +kernel
theorem d_Village_maySpeak_44 : decode b_Village_maySpeak 44 = .ok (.aload_n 0, 1) := by decide +kernel
theorem d_Village_maySpeak_45 : decode b_Village_maySpeak 45 = .ok (.getfield 36, 3) := by decide +kernel
theorem d_Village_maySpeak_48 : decode b_Village_maySpeak 48 = .ok (.iload_n 1, 1) := by decide +kernel
theorem d_Village_maySpeak_49 : decode b_Village_maySpeak 49 = .ok (.iload_n 2, 1) := by decide +kernel
theorem d_Village_maySpeak_50 : decode b_Village_maySpeak 50 = .ok (.invokevirtual 200, 3) := by decide +kernel
theorem d_Village_maySpeak_53 : decode b_Village_maySpeak 53 = .ok (.ifCond .ne 7, 3) := by decide +kernel
theorem d_Village_maySpeak_56 : decode b_Village_maySpeak 56 = .ok (.iconst 1, 1) := by decide +kernel
theorem d_Village_maySpeak_57 : decode b_Village_maySpeak 57 = .ok (.goto 4, 3) := by decide +kernel
theorem d_Village_maySpeak_60 : decode b_Village_maySpeak 60 = .ok (.iconst 0, 1) := by decide +kernel
theorem d_Village_maySpeak_61 : decode b_Village_maySpeak 61 = .ok (.ireturn, 1) := by decide +kernel
def F_Village_maySpeak (v : Nat) (a0 : Int32) (a1 : Int32) (σ : zSt) : Option (Int32) :=
  (F_Row_get v 10 a0 σ).bind fun r2 => (F_Row_get v 1 (0 : Int32) σ).bind fun r4 => if r2 < r4 then some (0 : Int32) else ((F_Row_get v 18 a0 σ).bind fun r6 => (F_Row_get v 1 (3 : Int32) σ).bind fun r8 => if r8 ≤ r6 then some (0 : Int32) else ((F_Homes_isQuiet v a0 a1 σ).bind fun r10 => if r10 = 0 then some (1 : Int32) else some (0 : Int32)))
set_option maxHeartbeats 4000000 in
set_option maxRecDepth 100000 in
theorem c_Village_maySpeak {l : Launch} {G : zLA} {v : Nat} (hv : zvl G v) {a0 : Int32} {a1 : Int32} {σ : zSt} {r : Int32} (hf : F_Village_maySpeak v a0 a1 σ = some r) : zM l G y_Village_maySpeak (zws y_Village_maySpeak b_Village_maySpeak 3 (some .boolean)) rm_Village_maySpeak [.ref (zad G v 0), .int a0, .int a1] σ (some (.int r)) σ := by
  refine z_ofM (own := "VillageWaves$Village") (lv := [(0, .ref (zad G v 0)), (1, .int a0), (2, .int a1)]) (by decide +kernel) rfl rfl (Nat.le_of_ble_eq_true rfl) (fun p e s m args below meth c C => ?_)
  rw [F_Village_maySpeak] at hf
  refine z_aload_n C d_Village_maySpeak_0 0 rfl rfl ?_
  refine gf_Village_36 C (zlv hv 0 rfl) rfl rfl d_Village_maySpeak_1 ?_
  refine gf_Village_194 C (zlv hv 3 rfl) rfl rfl d_Village_maySpeak_4 ?_
  refine z_iload_n C d_Village_maySpeak_7 1 rfl rfl ?_
  obtain ⟨r2, h1, hf⟩ := bd_s hf
  refine z_cVi C kl_Village_134 rfl (c_Row_get (zrow_v hv 10 rfl) h1) (zlv hv 10 rfl) rfl rfl rfl (Nat.le_of_ble_eq_true rfl) ⟨(Nat.le_of_ble_eq_true rfl), (Nat.le_of_ble_eq_true rfl)⟩ ⟨(Nat.le_of_ble_eq_true rfl), (Nat.le_of_ble_eq_true rfl)⟩ d_Village_maySpeak_8 ?_
  refine z_aload_n C d_Village_maySpeak_11 0 rfl rfl ?_
  refine gf_Village_29 C (zlv hv 0 rfl) rfl rfl d_Village_maySpeak_12 ?_
  refine z_iconst C d_Village_maySpeak_15 zki_0 ?_
  obtain ⟨r4, h3, hf⟩ := bd_s hf
  refine z_cVi C kl_Village_134 rfl (c_Row_get (zrow_v hv 1 rfl) h3) (zlv hv 1 rfl) rfl rfl rfl (Nat.le_of_ble_eq_true rfl) ⟨(Nat.le_of_ble_eq_true rfl), (Nat.le_of_ble_eq_true rfl)⟩ ⟨(Nat.le_of_ble_eq_true rfl), (Nat.le_of_ble_eq_true rfl)⟩ d_Village_maySpeak_16 ?_
  refine z_icmp_lt (tgt := 60) C d_Village_maySpeak_19 rfl (fun h13 => ?_) (fun h13 => ?_)
  · have hf := iff_t hf h13
    refine z_iconst C d_Village_maySpeak_60 zki_0 ?_
    cases hf
    exact z_zret C rfl rfl (Nat.le_of_ble_eq_true rfl) (Nat.le_of_ble_eq_true rfl) d_Village_maySpeak_61
  · have hf := iff_f hf h13
    refine z_aload_n C d_Village_maySpeak_22 0 rfl rfl ?_
    refine gf_Village_36 C (zlv hv 0 rfl) rfl rfl d_Village_maySpeak_23 ?_
    refine gf_Village_197 C (zlv hv 3 rfl) rfl rfl d_Village_maySpeak_26 ?_
    refine z_iload_n C d_Village_maySpeak_29 1 rfl rfl ?_
    obtain ⟨r6, h5, hf⟩ := bd_s hf
    refine z_cVi C kl_Village_134 rfl (c_Row_get (zrow_v hv 18 rfl) h5) (zlv hv 18 rfl) rfl rfl rfl (Nat.le_of_ble_eq_true rfl) ⟨(Nat.le_of_ble_eq_true rfl), (Nat.le_of_ble_eq_true rfl)⟩ ⟨(Nat.le_of_ble_eq_true rfl), (Nat.le_of_ble_eq_true rfl)⟩ d_Village_maySpeak_30 ?_
    refine z_aload_n C d_Village_maySpeak_33 0 rfl rfl ?_
    refine gf_Village_29 C (zlv hv 0 rfl) rfl rfl d_Village_maySpeak_34 ?_
    refine z_iconst C d_Village_maySpeak_37 zki_3 ?_
    obtain ⟨r8, h7, hf⟩ := bd_s hf
    refine z_cVi C kl_Village_134 rfl (c_Row_get (zrow_v hv 1 rfl) h7) (zlv hv 1 rfl) rfl rfl rfl (Nat.le_of_ble_eq_true rfl) ⟨(Nat.le_of_ble_eq_true rfl), (Nat.le_of_ble_eq_true rfl)⟩ ⟨(Nat.le_of_ble_eq_true rfl), (Nat.le_of_ble_eq_true rfl)⟩ d_Village_maySpeak_38 ?_
    refine z_icmp_ge (tgt := 60) C d_Village_maySpeak_41 rfl (fun h12 => ?_) (fun h12 => ?_)
    · have hf := iff_t hf h12
      refine z_iconst C d_Village_maySpeak_60 zki_0 ?_
      cases hf
      exact z_zret C rfl rfl (Nat.le_of_ble_eq_true rfl) (Nat.le_of_ble_eq_true rfl) d_Village_maySpeak_61
    · have hf := iff_f hf h12
      refine z_aload_n C d_Village_maySpeak_44 0 rfl rfl ?_
      refine gf_Village_36 C (zlv hv 0 rfl) rfl rfl d_Village_maySpeak_45 ?_
      refine z_iload_n C d_Village_maySpeak_48 1 rfl rfl ?_
      refine z_iload_n C d_Village_maySpeak_49 2 rfl rfl ?_
      obtain ⟨r10, h9, hf⟩ := bd_s hf
      refine z_cVi C kl_Village_200 rfl (c_Homes_isQuiet hv h9) (zlv hv 3 rfl) rfl rfl rfl (Nat.le_of_ble_eq_true rfl) ⟨(Nat.le_of_ble_eq_true rfl), (Nat.le_of_ble_eq_true rfl)⟩ ⟨(Nat.le_of_ble_eq_true rfl), (Nat.le_of_ble_eq_true rfl)⟩ d_Village_maySpeak_50 ?_
      refine z_if_ne (tgt := 60) C d_Village_maySpeak_53 rfl (fun h11 => ?_) (fun h11 => ?_)
      · have hf := iff_f hf h11
        refine z_iconst C d_Village_maySpeak_60 zki_0 ?_
        cases hf
        exact z_zret C rfl rfl (Nat.le_of_ble_eq_true rfl) (Nat.le_of_ble_eq_true rfl) d_Village_maySpeak_61
      · have hf := iff_t hf h11
        refine z_iconst C d_Village_maySpeak_56 zki_1 ?_
        refine z_goto (tgt := 61) C d_Village_maySpeak_57 rfl ?_
        cases hf
        exact z_zret C rfl rfl (Nat.le_of_ble_eq_true rfl) (Nat.le_of_ble_eq_true rfl) d_Village_maySpeak_61
abbrev rm_Village_wishing : Room := { frames := 3, cells := 0, slots := 0, locals := 69 }
theorem d_Village_wishing_0 : decode b_Village_wishing 0 = .ok (.aload_n 0, 1) := by decide +kernel
theorem d_Village_wishing_1 : decode b_Village_wishing 1 = .ok (.invokevirtual 185, 3) := by decide +kernel
theorem d_Village_wishing_4 : decode b_Village_wishing 4 = .ok (.istore_n 1, 1) := by decide +kernel
theorem d_Village_wishing_5 : decode b_Village_wishing 5 = .ok (.iconst 0, 1) := by decide +kernel
theorem d_Village_wishing_6 : decode b_Village_wishing 6 = .ok (.istore_n 2, 1) := by decide +kernel
theorem d_Village_wishing_7 : decode b_Village_wishing 7 = .ok (.iconst 0, 1) := by decide +kernel
theorem d_Village_wishing_8 : decode b_Village_wishing 8 = .ok (.istore_n 3, 1) := by decide +kernel
theorem d_Village_wishing_9 : decode b_Village_wishing 9 = .ok (.iload_n 3, 1) := by decide +kernel
theorem d_Village_wishing_10 : decode b_Village_wishing 10 = .ok (.aload_n 0, 1) := by decide +kernel
theorem d_Village_wishing_11 : decode b_Village_wishing 11 = .ok (.getfield 36, 3) := by decide +kernel
theorem d_Village_wishing_14 : decode b_Village_wishing 14 = .ok (.getfield 190, 3) := by decide +kernel
theorem d_Village_wishing_17 : decode b_Village_wishing 17 = .ok (.if_icmp .ge 59, 3) := by decide +kernel
theorem d_Village_wishing_20 : decode b_Village_wishing 20 = .ok (.aload_n 0, 1) := by decide +kernel
theorem d_Village_wishing_21 : decode b_Village_wishing 21 = .ok (.getfield 50, 3) := by decide +kernel
theorem d_Village_wishing_24 : decode b_Village_wishing 24 = .ok (.getfield 142, 3) := by decide +kernel
theorem d_Village_wishing_27 : decode b_Village_wishing 27 = .ok (.iload_n 3, 1) := by decide +kernel
theorem d_Village_wishing_28 : decode b_Village_wishing 28 = .ok (.invokevirtual 134, 3) := by decide +kernel
theorem d_Village_wishing_31 : decode b_Village_wishing 31 = .ok (.ifCond .ne 11, 3) := by decide +kernel
theorem d_Village_wishing_34 : decode b_Village_wishing 34 = .ok (.aload_n 0, 1) := by decide +kernel
theorem d_Village_wishing_35 : decode b_Village_wishing 35 = .ok (.iload_n 3, 1) := by decide +kernel
theorem d_Village_wishing_36 : decode b_Village_wishing 36 = .ok (.invokevirtual 170, 3) := by decide +kernel
theorem d_Village_wishing_39 : decode b_Village_wishing 39 = .ok (.ifCond .eq 7, 3) := by decide +kernel
theorem d_Village_wishing_42 : decode b_Village_wishing 42 = .ok (.iconst 1, 1) := by decide +kernel
theorem d_Village_wishing_43 : decode b_Village_wishing 43 = .ok (.goto 4, 3) := by decide +kernel
theorem d_Village_wishing_46 : decode b_Village_wishing 46 = .ok (.iconst 0, 1) := by decide +kernel
theorem d_Village_wishing_47 : decode b_Village_wishing 47 = .ok (.istore 4, 2) := by decide +kernel
theorem d_Village_wishing_49 : decode b_Village_wishing 49 = .ok (.iload 4, 2) := by decide +kernel
theorem d_Village_wishing_51 : decode b_Village_wishing 51 = .ok (.ifCond .eq 19, 3) := by decide +kernel
theorem d_Village_wishing_54 : decode b_Village_wishing 54 = .ok (.aload_n 0, 1) := by decide +kernel
theorem d_Village_wishing_55 : decode b_Village_wishing 55 = .ok (.iload_n 3, 1) := by decide +kernel
theorem d_Village_wishing_56 : decode b_Village_wishing 56 = .ok (.iload_n 1, 1) := by decide +kernel
theorem d_Village_wishing_57 : decode b_Village_wishing 57 = .ok (.invokevirtual 191, 3) := by decide +kernel
theorem d_Village_wishing_60 : decode b_Village_wishing 60 = .ok (.ifCond .eq 10, 3) := by decide +kernel
theorem d_Village_wishing_63 : decode b_Village_wishing 63 = .ok (.iload_n 2, 1) := by decide +kernel
theorem d_Village_wishing_64 : decode b_Village_wishing 64 = .ok (.iload_n 3, 1) := by decide +kernel
theorem d_Village_wishing_65 : decode b_Village_wishing 65 = .ok (.invokestatic 154, 3) := by decide +kernel
theorem d_Village_wishing_68 : decode b_Village_wishing 68 = .ok (.ior, 1) := by decide +kernel
theorem d_Village_wishing_69 : decode b_Village_wishing 69 = .ok (.istore_n 2, 1) := by decide +kernel
theorem d_Village_wishing_70 : decode b_Village_wishing 70 = .ok (.iinc 3 1, 3) := by decide +kernel
theorem d_Village_wishing_73 : decode b_Village_wishing 73 = .ok (.goto (-64), 3) := by decide +kernel
theorem d_Village_wishing_76 : decode b_Village_wishing 76 = .ok (.iload_n 2, 1) := by decide +kernel
theorem d_Village_wishing_77 : decode b_Village_wishing 77 = .ok (.ireturn, 1) := by decide +kernel
def L_Village_wishing (v : Nat) (σ : zSt) : Nat → Nat → Int32 → Int32 → Int32 → Int32 → Option (Int32)
  | 0, _, _, _, _, _ => none
  | n + 1, 0, x1, x2, x3, y0 => if (σ.1 v 3 0) ≤ x3 then some x2 else ((F_Row_get v 44 x3 σ).bind fun r4 => if r4 = 0 then ((F_Village_sendableCorrections v x3 σ).bind fun r6 => if r6 = 0 then L_Village_wishing v σ n 1 x1 x2 x3 (0 : Int32) else L_Village_wishing v σ n 1 x1 x2 x3 (1 : Int32)) else L_Village_wishing v σ n 1 x1 x2 x3 (1 : Int32))
  | n + 1, 1, x1, x2, x3, y0 => if y0 = 0 then L_Village_wishing v σ n 0 x1 x2 (x3 + (1 : Int32)) 0 else ((F_Village_maySpeak v x3 x1 σ).bind fun r11 => if r11 = 0 then L_Village_wishing v σ n 0 x1 x2 (x3 + (1 : Int32)) 0 else ((F_Waves_bit x3 σ).bind fun r13 => L_Village_wishing v σ n 0 x1 (x2 ||| r13) (x3 + (1 : Int32)) 0))
  | _ + 1, _, _, _, _, _ => none
theorem e_Village_wishing_0 (v : Nat) (σ : zSt) (n : Nat) (x1 : Int32) (x2 : Int32) (x3 : Int32) (y0 : Int32) : L_Village_wishing v σ (n + 1) 0 x1 x2 x3 y0 = (if (σ.1 v 3 0) ≤ x3 then some x2 else ((F_Row_get v 44 x3 σ).bind fun r4 => if r4 = 0 then ((F_Village_sendableCorrections v x3 σ).bind fun r6 => if r6 = 0 then L_Village_wishing v σ n 1 x1 x2 x3 (0 : Int32) else L_Village_wishing v σ n 1 x1 x2 x3 (1 : Int32)) else L_Village_wishing v σ n 1 x1 x2 x3 (1 : Int32))) := rfl
theorem e_Village_wishing_1 (v : Nat) (σ : zSt) (n : Nat) (x1 : Int32) (x2 : Int32) (x3 : Int32) (y0 : Int32) : L_Village_wishing v σ (n + 1) 1 x1 x2 x3 y0 = (if y0 = 0 then L_Village_wishing v σ n 0 x1 x2 (x3 + (1 : Int32)) 0 else ((F_Village_maySpeak v x3 x1 σ).bind fun r11 => if r11 = 0 then L_Village_wishing v σ n 0 x1 x2 (x3 + (1 : Int32)) 0 else ((F_Waves_bit x3 σ).bind fun r13 => L_Village_wishing v σ n 0 x1 (x2 ||| r13) (x3 + (1 : Int32)) 0))) := rfl
set_option maxHeartbeats 4000000 in
set_option maxRecDepth 100000 in
theorem w_Village_wishing {l : Launch} {G : zLA} {p : Program} {e : Env} {s : State} {m : MethodId} {args : Array Value} {below : List Frame} {meth : Method} {c : Code} (C : zCx G p s m args meth c "VillageWaves$Village" b_Village_wishing 5 (some .int)) {v : Nat} (hv : zvl G v) {σ : zSt} {r : Int32} : ∀ n : Nat, (∀ (x1 : Int32) (x2 : Int32) (x3 : Int32) (y0 : Int32), L_Village_wishing v σ n 0 x1 x2 x3 y0 = some r → zWV G p l e rm_Village_wishing s m args below meth c 5 0 0 (zQ G below args s rm_Village_wishing (some (.int r)) σ) 9 [(0, .ref (zad G v 0)), (1, .int x1), (2, .int x2), (3, .int x3)] [] σ) ∧ (∀ (x1 : Int32) (x2 : Int32) (x3 : Int32) (y0 : Int32), L_Village_wishing v σ n 1 x1 x2 x3 y0 = some r → zWV G p l e rm_Village_wishing s m args below meth c 5 0 0 (zQ G below args s rm_Village_wishing (some (.int r)) σ) 47 [(0, .ref (zad G v 0)), (1, .int x1), (2, .int x2), (3, .int x3)] [.int y0] σ) := by
  intro n
  induction n with
  | zero => exact ⟨fun _ _ _ _ hf => (by cases hf), fun _ _ _ _ hf => (by cases hf)⟩
  | succ n ih =>
    refine ⟨?_, ?_⟩
    · intro x1 x2 x3 y0 hf
      rw [e_Village_wishing_0] at hf
      refine z_iload_n C d_Village_wishing_9 3 rfl rfl ?_
      refine z_aload_n C d_Village_wishing_10 0 rfl rfl ?_
      refine gf_Village_36 C (zlv hv 0 rfl) rfl rfl d_Village_wishing_11 ?_
      refine gf_Village_190 C (zlv hv 3 rfl) rfl rfl d_Village_wishing_14 ?_
      refine z_icmp_ge (tgt := 76) C d_Village_wishing_17 rfl (fun h9 => ?_) (fun h9 => ?_)
      · have hf := iff_t hf h9
        refine z_iload_n C d_Village_wishing_76 2 rfl rfl ?_
        cases hf
        exact z_iret C rfl (Nat.le_of_ble_eq_true rfl) (Nat.le_of_ble_eq_true rfl) d_Village_wishing_77
      · have hf := iff_f hf h9
        refine z_aload_n C d_Village_wishing_20 0 rfl rfl ?_
        refine gf_Village_50 C (zlv hv 0 rfl) rfl rfl d_Village_wishing_21 ?_
        refine gf_Village_142 C (zlv hv 43 rfl) rfl rfl d_Village_wishing_24 ?_
        refine z_iload_n C d_Village_wishing_27 3 rfl rfl ?_
        obtain ⟨r4, h3, hf⟩ := bd_s hf
        refine z_cVi C kl_Village_134 rfl (c_Row_get (zrow_v hv 44 rfl) h3) (zlv hv 44 rfl) rfl rfl rfl (Nat.le_of_ble_eq_true rfl) ⟨(Nat.le_of_ble_eq_true rfl), (Nat.le_of_ble_eq_true rfl)⟩ ⟨(Nat.le_of_ble_eq_true rfl), (Nat.le_of_ble_eq_true rfl)⟩ d_Village_wishing_28 ?_
        refine z_if_ne (tgt := 42) C d_Village_wishing_31 rfl (fun h8 => ?_) (fun h8 => ?_)
        · have hf := iff_f hf h8
          refine z_iconst C d_Village_wishing_42 zki_1 ?_
          refine z_goto (tgt := 47) C d_Village_wishing_43 rfl ?_
          exact z_sub [0, 1, 2, 3] rfl (ih.2 _ _ _ _ hf)
        · have hf := iff_t hf h8
          refine z_aload_n C d_Village_wishing_34 0 rfl rfl ?_
          refine z_iload_n C d_Village_wishing_35 3 rfl rfl ?_
          obtain ⟨r6, h5, hf⟩ := bd_s hf
          refine z_cVi C kl_Village_170 rfl (c_Village_sendableCorrections hv h5) (zlv hv 0 rfl) rfl rfl rfl (Nat.le_of_ble_eq_true rfl) ⟨(Nat.le_of_ble_eq_true rfl), (Nat.le_of_ble_eq_true rfl)⟩ ⟨(Nat.le_of_ble_eq_true rfl), (Nat.le_of_ble_eq_true rfl)⟩ d_Village_wishing_36 ?_
          refine z_if_eq (tgt := 46) C d_Village_wishing_39 rfl (fun h7 => ?_) (fun h7 => ?_)
          · have hf := iff_t hf h7
            refine z_iconst C d_Village_wishing_46 zki_0 ?_
            exact z_sub [0, 1, 2, 3] rfl (ih.2 _ _ _ _ hf)
          · have hf := iff_f hf h7
            refine z_iconst C d_Village_wishing_42 zki_1 ?_
            refine z_goto (tgt := 47) C d_Village_wishing_43 rfl ?_
            exact z_sub [0, 1, 2, 3] rfl (ih.2 _ _ _ _ hf)
    · intro x1 x2 x3 y0 hf
      rw [e_Village_wishing_1] at hf
      refine z_istore C d_Village_wishing_47 (by decide) ?_
      refine z_iload C d_Village_wishing_49 0 rfl ?_
      refine z_if_eq (tgt := 70) C d_Village_wishing_51 rfl (fun h15 => ?_) (fun h15 => ?_)
      · have hf := iff_t hf h15
        refine z_iinc C d_Village_wishing_70 4 rfl zki_1 (by decide) ?_
        refine z_goto (tgt := 9) C d_Village_wishing_73 rfl ?_
        exact z_sub [2, 3, 4, 0] rfl (ih.1 _ _ _ _ hf)
      · have hf := iff_f hf h15
        refine z_aload_n C d_Village_wishing_54 1 rfl rfl ?_
        refine z_iload_n C d_Village_wishing_55 4 rfl rfl ?_
        refine z_iload_n C d_Village_wishing_56 2 rfl rfl ?_
        obtain ⟨r11, h10, hf⟩ := bd_s hf
        refine z_cVi C kl_Village_191 rfl (c_Village_maySpeak hv h10) (zlv hv 0 rfl) rfl rfl rfl (Nat.le_of_ble_eq_true rfl) ⟨(Nat.le_of_ble_eq_true rfl), (Nat.le_of_ble_eq_true rfl)⟩ ⟨(Nat.le_of_ble_eq_true rfl), (Nat.le_of_ble_eq_true rfl)⟩ d_Village_wishing_57 ?_
        refine z_if_eq (tgt := 70) C d_Village_wishing_60 rfl (fun h14 => ?_) (fun h14 => ?_)
        · have hf := iff_t hf h14
          refine z_iinc C d_Village_wishing_70 4 rfl zki_1 (by decide) ?_
          refine z_goto (tgt := 9) C d_Village_wishing_73 rfl ?_
          exact z_sub [2, 3, 4, 0] rfl (ih.1 _ _ _ _ hf)
        · have hf := iff_f hf h14
          refine z_iload_n C d_Village_wishing_63 3 rfl rfl ?_
          refine z_iload_n C d_Village_wishing_64 4 rfl rfl ?_
          obtain ⟨r13, h12, hf⟩ := bd_s hf
          refine z_cSNi C kl_Village_154 (c_Waves_bit h12) rfl rfl (Nat.le_of_ble_eq_true rfl) ⟨(Nat.le_of_ble_eq_true rfl), (Nat.le_of_ble_eq_true rfl)⟩ ⟨(Nat.le_of_ble_eq_true rfl), (Nat.le_of_ble_eq_true rfl)⟩ d_Village_wishing_65 ?_
          refine z_ior C d_Village_wishing_68 ?_
          refine z_istore_n C d_Village_wishing_69 rfl (by decide) ?_
          refine z_iinc C d_Village_wishing_70 4 rfl zki_1 (by decide) ?_
          refine z_goto (tgt := 9) C d_Village_wishing_73 rfl ?_
          exact z_sub [3, 4, 1, 0] rfl (ih.1 _ _ _ _ hf)
def F_Village_wishing (v : Nat) (σ : zSt) : Option (Int32) :=
  (F_Village_minuteOfDay v σ).bind fun r2 => L_Village_wishing v σ zK 0 r2 (0 : Int32) (0 : Int32) 0
set_option maxHeartbeats 4000000 in
set_option maxRecDepth 100000 in
theorem c_Village_wishing {l : Launch} {G : zLA} {v : Nat} (hv : zvl G v) {σ : zSt} {r : Int32} (hf : F_Village_wishing v σ = some r) : zM l G y_Village_wishing (zws y_Village_wishing b_Village_wishing 5 (some .int)) rm_Village_wishing [.ref (zad G v 0)] σ (some (.int r)) σ := by
  refine z_ofM (own := "VillageWaves$Village") (lv := [(0, .ref (zad G v 0))]) (by decide +kernel) rfl rfl (Nat.le_of_ble_eq_true rfl) (fun p e s m args below meth c C => ?_)
  rw [F_Village_wishing] at hf
  refine z_aload_n C d_Village_wishing_0 0 rfl rfl ?_
  obtain ⟨r2, h1, hf⟩ := bd_s hf
  refine z_cVi C kl_Village_185 rfl (c_Village_minuteOfDay hv h1) (zlv hv 0 rfl) rfl rfl rfl (Nat.le_of_ble_eq_true rfl) ⟨(Nat.le_of_ble_eq_true rfl), (Nat.le_of_ble_eq_true rfl)⟩ ⟨(Nat.le_of_ble_eq_true rfl), (Nat.le_of_ble_eq_true rfl)⟩ d_Village_wishing_1 ?_
  refine z_istore_n C d_Village_wishing_4 rfl (by decide) ?_
  refine z_iconst C d_Village_wishing_5 zki_0 ?_
  refine z_istore_n C d_Village_wishing_6 rfl (by decide) ?_
  refine z_iconst C d_Village_wishing_7 zki_0 ?_
  refine z_istore_n C d_Village_wishing_8 rfl (by decide) ?_
  exact z_sub [3, 2, 1, 0] rfl ((w_Village_wishing C hv zK).1 _ _ _ _ hf)
abbrev rm_Village_draw : Room := { frames := 0, cells := 0, slots := 0, locals := 0 }
theorem d_Village_draw_0 : decode b_Village_draw 0 = .ok (.aload_n 0, 1) := by decide +kernel
theorem d_Village_draw_1 : decode b_Village_draw 1 = .ok (.sipush 1103, 3) := by decide +kernel
theorem d_Village_draw_4 : decode b_Village_draw 4 = .ok (.aload_n 0, 1) := by decide +kernel
theorem d_Village_draw_5 : decode b_Village_draw 5 = .ok (.getfield 18, 3) := by decide +kernel
theorem d_Village_draw_8 : decode b_Village_draw 8 = .ok (.imul, 1) := by decide +kernel
theorem d_Village_draw_9 : decode b_Village_draw 9 = .ok (.sipush 12345, 3) := by decide +kernel
theorem d_Village_draw_12 : decode b_Village_draw 12 = .ok (.iadd, 1) := by decide +kernel
theorem d_Village_draw_13 : decode b_Village_draw 13 = .ok (.ldc 212, 2) := by decide +kernel
theorem d_Village_draw_15 : decode b_Village_draw 15 = .ok (.irem, 1) := by decide +kernel
theorem d_Village_draw_16 : decode b_Village_draw 16 = .ok (.putfield 18, 3) := by decide +kernel
theorem d_Village_draw_19 : decode b_Village_draw 19 = .ok (.iload_n 1, 1) := by decide +kernel
theorem d_Village_draw_20 : decode b_Village_draw 20 = .ok (.ifCond .le 12, 3) := by decide +kernel
theorem d_Village_draw_23 : decode b_Village_draw 23 = .ok (.aload_n 0, 1) := by decide +kernel
theorem d_Village_draw_24 : decode b_Village_draw 24 = .ok (.getfield 18, 3) := by decide +kernel
theorem d_Village_draw_27 : decode b_Village_draw 27 = .ok (.iload_n 1, 1) := by decide +kernel
theorem d_Village_draw_28 : decode b_Village_draw 28 = .ok (.irem, 1) := by decide +kernel
theorem d_Village_draw_29 : decode b_Village_draw 29 = .ok (.goto 4, 3) := by decide +kernel
theorem d_Village_draw_32 : decode b_Village_draw 32 = .ok (.iconst 0, 1) := by decide +kernel
theorem d_Village_draw_33 : decode b_Village_draw 33 = .ok (.ireturn, 1) := by decide +kernel
def F_Village_draw (v : Nat) (a0 : Int32) (σ : zSt) : Option (Int32 × zSt) :=
  if a0 ≤ 0 then some ((0 : Int32), (zst σ v 0 2 ((((1103 : Int32) * (σ.1 v 0 2)) + (12345 : Int32)) - (((1103 : Int32) * (σ.1 v 0 2)) + (12345 : Int32)) / (1000003 : Int32) * (1000003 : Int32)))) else (if ¬ a0 = (0 : Int32) then some ((((zst σ v 0 2 ((((1103 : Int32) * (σ.1 v 0 2)) + (12345 : Int32)) - (((1103 : Int32) * (σ.1 v 0 2)) + (12345 : Int32)) / (1000003 : Int32) * (1000003 : Int32))).1 v 0 2) - ((zst σ v 0 2 ((((1103 : Int32) * (σ.1 v 0 2)) + (12345 : Int32)) - (((1103 : Int32) * (σ.1 v 0 2)) + (12345 : Int32)) / (1000003 : Int32) * (1000003 : Int32))).1 v 0 2) / a0 * a0), (zst σ v 0 2 ((((1103 : Int32) * (σ.1 v 0 2)) + (12345 : Int32)) - (((1103 : Int32) * (σ.1 v 0 2)) + (12345 : Int32)) / (1000003 : Int32) * (1000003 : Int32)))) else none)
set_option maxHeartbeats 4000000 in
set_option maxRecDepth 100000 in
theorem c_Village_draw {l : Launch} {G : zLA} {v : Nat} (hv : zvl G v) {a0 : Int32} {σ : zSt} {r : Int32} {σ' : zSt} (hf : F_Village_draw v a0 σ = some (r, σ')) : zM l G y_Village_draw (zws y_Village_draw b_Village_draw 2 (some .int)) rm_Village_draw [.ref (zad G v 0), .int a0] σ (some (.int r)) σ' := by
  refine z_ofM (own := "VillageWaves$Village") (lv := [(0, .ref (zad G v 0)), (1, .int a0)]) (by decide +kernel) rfl rfl (Nat.le_of_ble_eq_true rfl) (fun p e s m args below meth c C => ?_)
  rw [F_Village_draw] at hf
  refine z_aload_n C d_Village_draw_0 0 rfl rfl ?_
  refine z_sipush C d_Village_draw_1 zks_1103 ?_
  refine z_aload_n C d_Village_draw_4 0 rfl rfl ?_
  refine gf_Village_18 C (zlv hv 0 rfl) rfl rfl d_Village_draw_5 ?_
  refine z_imul C d_Village_draw_8 ?_
  refine z_sipush C d_Village_draw_9 zks_12345 ?_
  refine z_iadd C d_Village_draw_12 ?_
  refine z_ldc C d_Village_draw_13 zq838 ?_
  refine z_irem C d_Village_draw_15 (by decide) ?_
  refine pf_Village_18 C (zlv hv 0 rfl) rfl (Nat.le_of_ble_eq_true rfl) rfl d_Village_draw_16 ?_
  refine z_iload_n C d_Village_draw_19 1 rfl rfl ?_
  refine z_if_le (tgt := 32) C d_Village_draw_20 rfl (fun h2 => ?_) (fun h2 => ?_)
  · have hf := iff_t hf h2
    refine z_iconst C d_Village_draw_32 zki_0 ?_
    cases hf
    exact z_iret C rfl (Nat.le_of_ble_eq_true rfl) (Nat.le_of_ble_eq_true rfl) d_Village_draw_33
  · have hf := iff_f hf h2
    refine z_aload_n C d_Village_draw_23 0 rfl rfl ?_
    refine gf_Village_18 C (zlv hv 0 rfl) rfl rfl d_Village_draw_24 ?_
    refine z_iload_n C d_Village_draw_27 1 rfl rfl ?_
    obtain ⟨h1, hf⟩ := iff_g hf
    refine z_irem C d_Village_draw_28 h1 ?_
    refine z_goto (tgt := 33) C d_Village_draw_29 rfl ?_
    cases hf
    exact z_iret C rfl (Nat.le_of_ble_eq_true rfl) (Nat.le_of_ble_eq_true rfl) d_Village_draw_33
abbrev rm_Village_drawnOf : Room := { frames := 2, cells := 0, slots := 0, locals := 44 }
theorem d_Village_drawnOf_0 : decode b_Village_drawnOf 0 = .ok (.aload_n 0, 1) := by decide +kernel
theorem d_Village_drawnOf_1 : decode b_Village_drawnOf 1 = .ok (.aload_n 0, 1) := by decide +kernel
theorem d_Village_drawnOf_2 : decode b_Village_drawnOf 2 = .ok (.getfield 36, 3) := by decide +kernel
theorem d_Village_drawnOf_5 : decode b_Village_drawnOf 5 = .ok (.iload_n 1, 1) := by decide +kernel
theorem d_Village_drawnOf_6 : decode b_Village_drawnOf 6 = .ok (.invokevirtual 203, 3) := by decide +kernel
theorem d_Village_drawnOf_9 : decode b_Village_drawnOf 9 = .ok (.invokevirtual 206, 3) := by decide +kernel
theorem d_Village_drawnOf_12 : decode b_Village_drawnOf 12 = .ok (.istore_n 2, 1) := by decide +kernel
theorem d_Village_drawnOf_13 : decode b_Village_drawnOf 13 = .ok (.iconst 0, 1) := by decide +kernel
theorem d_Village_drawnOf_14 : decode b_Village_drawnOf 14 = .ok (.istore_n 3, 1) := by decide +kernel
theorem d_Village_drawnOf_15 : decode b_Village_drawnOf 15 = .ok (.iload_n 3, 1) := by decide +kernel
theorem d_Village_drawnOf_16 : decode b_Village_drawnOf 16 = .ok (.aload_n 0, 1) := by decide +kernel
theorem d_Village_drawnOf_17 : decode b_Village_drawnOf 17 = .ok (.getfield 36, 3) := by decide +kernel
theorem d_Village_drawnOf_20 : decode b_Village_drawnOf 20 = .ok (.getfield 190, 3) := by decide +kernel
theorem d_Village_drawnOf_23 : decode b_Village_drawnOf 23 = .ok (.if_icmp .ge 37, 3) := by decide +kernel
theorem d_Village_drawnOf_26 : decode b_Village_drawnOf 26 = .ok (.iload_n 1, 1) := by decide +kernel
theorem d_Village_drawnOf_27 : decode b_Village_drawnOf 27 = .ok (.iload_n 3, 1) := by decide +kernel
theorem d_Village_drawnOf_28 : decode b_Village_drawnOf 28 = .ok (.invokestatic 138, 3) := by decide +kernel
theorem d_Village_drawnOf_31 : decode b_Village_drawnOf 31 = .ok (.ifCond .eq 23, 3) := by decide +kernel
theorem d_Village_drawnOf_34 : decode b_Village_drawnOf 34 = .ok (.iload_n 2, 1) := by decide +kernel
theorem d_Village_drawnOf_35 : decode b_Village_drawnOf 35 = .ok (.aload_n 0, 1) := by decide +kernel
theorem d_Village_drawnOf_36 : decode b_Village_drawnOf 36 = .ok (.getfield 36, 3) := by decide +kernel
theorem d_Village_drawnOf_39 : decode b_Village_drawnOf 39 = .ok (.getfield 209, 3) := by decide +kernel
theorem d_Village_drawnOf_42 : decode b_Village_drawnOf 42 = .ok (.iload_n 3, 1) := by decide +kernel
theorem d_Village_drawnOf_43 : decode b_Village_drawnOf 43 = .ok (.invokevirtual 134, 3) := by decide +kernel
theorem d_Village_drawnOf_46 : decode b_Village_drawnOf 46 = .ok (.isub, 1) := by decide +kernel
theorem d_Village_drawnOf_47 : decode b_Village_drawnOf 47 = .ok (.istore_n 2, 1) := by decide +kernel
theorem d_Village_drawnOf_48 : decode b_Village_drawnOf 48 = .ok (.iload_n 2, 1) := by decide +kernel
theorem d_Village_drawnOf_49 : decode b_Village_drawnOf 49 = .ok (.ifCond .ge 5, 3) := by decide +kernel
theorem d_Village_drawnOf_52 : decode b_Village_drawnOf 52 = .ok (.iload_n 3, 1) := by decide +kernel
theorem d_Village_drawnOf_53 : decode b_Village_drawnOf 53 = .ok (.ireturn, 1) := by decide +kernel
theorem d_Village_drawnOf_54 : decode b_Village_drawnOf 54 = .ok (.iinc 3 1, 3) := by decide +kernel
theorem d_Village_drawnOf_57 : decode b_Village_drawnOf 57 = .ok (.goto (-42), 3) := by decide +kernel
theorem d_Village_drawnOf_60 : decode b_Village_drawnOf 60 = .ok (.iconst (-1), 1) := by decide +kernel
theorem d_Village_drawnOf_61 : decode b_Village_drawnOf 61 = .ok (.ireturn, 1) := by decide +kernel
def L_Village_drawnOf (v : Nat) : Nat → Nat → Int32 → Int32 → Int32 → zSt → Option (Int32 × zSt)
  | 0, _, _, _, _, _ => none
  | n + 1, 0, x1, x2, x3, σ => if (σ.1 v 3 0) ≤ x3 then some ((-1 : Int32), σ) else ((F_Waves_contains x1 x3 σ).bind fun r7 => if r7 = 0 then L_Village_drawnOf v n 0 x1 x2 (x3 + (1 : Int32)) σ else ((F_Row_get v 12 x3 σ).bind fun r9 => if 0 ≤ (x2 - r9) then L_Village_drawnOf v n 0 x1 (x2 - r9) (x3 + (1 : Int32)) σ else some (x3, σ)))
  | _ + 1, _, _, _, _, _ => none
theorem e_Village_drawnOf_0 (v : Nat) (n : Nat) (x1 : Int32) (x2 : Int32) (x3 : Int32) (σ : zSt) : L_Village_drawnOf v (n + 1) 0 x1 x2 x3 σ = (if (σ.1 v 3 0) ≤ x3 then some ((-1 : Int32), σ) else ((F_Waves_contains x1 x3 σ).bind fun r7 => if r7 = 0 then L_Village_drawnOf v n 0 x1 x2 (x3 + (1 : Int32)) σ else ((F_Row_get v 12 x3 σ).bind fun r9 => if 0 ≤ (x2 - r9) then L_Village_drawnOf v n 0 x1 (x2 - r9) (x3 + (1 : Int32)) σ else some (x3, σ)))) := rfl
set_option maxHeartbeats 4000000 in
set_option maxRecDepth 100000 in
theorem w_Village_drawnOf {l : Launch} {G : zLA} {p : Program} {e : Env} {s : State} {m : MethodId} {args : Array Value} {below : List Frame} {meth : Method} {c : Code} (C : zCx G p s m args meth c "VillageWaves$Village" b_Village_drawnOf 4 (some .int)) {v : Nat} (hv : zvl G v) {r : Int32} {σ' : zSt} : ∀ n : Nat, (∀ (x1 : Int32) (x2 : Int32) (x3 : Int32) (σ : zSt), L_Village_drawnOf v n 0 x1 x2 x3 σ = some (r, σ') → zWV G p l e rm_Village_drawnOf s m args below meth c 4 0 0 (zQ G below args s rm_Village_drawnOf (some (.int r)) σ') 15 [(0, .ref (zad G v 0)), (1, .int x1), (2, .int x2), (3, .int x3)] [] σ) := by
  intro n
  induction n with
  | zero => exact fun _ _ _ _ hf => (by cases hf)
  | succ n ih =>
    refine ?_
    · intro x1 x2 x3 σ hf
      rw [e_Village_drawnOf_0] at hf
      refine z_iload_n C d_Village_drawnOf_15 3 rfl rfl ?_
      refine z_aload_n C d_Village_drawnOf_16 0 rfl rfl ?_
      refine gf_Village_36 C (zlv hv 0 rfl) rfl rfl d_Village_drawnOf_17 ?_
      refine gf_Village_190 C (zlv hv 3 rfl) rfl rfl d_Village_drawnOf_20 ?_
      refine z_icmp_ge (tgt := 60) C d_Village_drawnOf_23 rfl (fun h12 => ?_) (fun h12 => ?_)
      · have hf := iff_t hf h12
        refine z_iconst C d_Village_drawnOf_60 zki_m1 ?_
        cases hf
        exact z_iret C rfl (Nat.le_of_ble_eq_true rfl) (Nat.le_of_ble_eq_true rfl) d_Village_drawnOf_61
      · have hf := iff_f hf h12
        refine z_iload_n C d_Village_drawnOf_26 1 rfl rfl ?_
        refine z_iload_n C d_Village_drawnOf_27 3 rfl rfl ?_
        obtain ⟨r7, h6, hf⟩ := bd_s hf
        refine z_cSNi C kl_Village_138 (c_Waves_contains h6) rfl rfl (Nat.le_of_ble_eq_true rfl) ⟨(Nat.le_of_ble_eq_true rfl), (Nat.le_of_ble_eq_true rfl)⟩ ⟨(Nat.le_of_ble_eq_true rfl), (Nat.le_of_ble_eq_true rfl)⟩ d_Village_drawnOf_28 ?_
        refine z_if_eq (tgt := 54) C d_Village_drawnOf_31 rfl (fun h11 => ?_) (fun h11 => ?_)
        · have hf := iff_t hf h11
          refine z_iinc C d_Village_drawnOf_54 3 rfl zki_1 (by decide) ?_
          refine z_goto (tgt := 15) C d_Village_drawnOf_57 rfl ?_
          exact z_sub [1, 2, 3, 0] rfl (ih _ _ _ _ hf)
        · have hf := iff_f hf h11
          refine z_iload_n C d_Village_drawnOf_34 2 rfl rfl ?_
          refine z_aload_n C d_Village_drawnOf_35 0 rfl rfl ?_
          refine gf_Village_36 C (zlv hv 0 rfl) rfl rfl d_Village_drawnOf_36 ?_
          refine gf_Village_209 C (zlv hv 3 rfl) rfl rfl d_Village_drawnOf_39 ?_
          refine z_iload_n C d_Village_drawnOf_42 3 rfl rfl ?_
          obtain ⟨r9, h8, hf⟩ := bd_s hf
          refine z_cVi C kl_Village_134 rfl (c_Row_get (zrow_v hv 12 rfl) h8) (zlv hv 12 rfl) rfl rfl rfl (Nat.le_of_ble_eq_true rfl) ⟨(Nat.le_of_ble_eq_true rfl), (Nat.le_of_ble_eq_true rfl)⟩ ⟨(Nat.le_of_ble_eq_true rfl), (Nat.le_of_ble_eq_true rfl)⟩ d_Village_drawnOf_43 ?_
          refine z_isub C d_Village_drawnOf_46 ?_
          refine z_istore_n C d_Village_drawnOf_47 rfl (by decide) ?_
          refine z_iload_n C d_Village_drawnOf_48 0 rfl rfl ?_
          refine z_if_ge (tgt := 54) C d_Village_drawnOf_49 rfl (fun h10 => ?_) (fun h10 => ?_)
          · have hf := iff_t hf h10
            refine z_iinc C d_Village_drawnOf_54 3 rfl zki_1 (by decide) ?_
            refine z_goto (tgt := 15) C d_Village_drawnOf_57 rfl ?_
            exact z_sub [2, 3, 1, 0] rfl (ih _ _ _ _ hf)
          · have hf := iff_f hf h10
            refine z_iload_n C d_Village_drawnOf_52 3 rfl rfl ?_
            cases hf
            exact z_iret C rfl (Nat.le_of_ble_eq_true rfl) (Nat.le_of_ble_eq_true rfl) d_Village_drawnOf_53
def F_Village_drawnOf (v : Nat) (a0 : Int32) (σ : zSt) : Option (Int32 × zSt) :=
  (F_Homes_sharesOf v a0 σ).bind fun r2 => bd2 (F_Village_draw v r2 σ) fun r4 σ5 => L_Village_drawnOf v zK 0 a0 r4 (0 : Int32) σ5
set_option maxHeartbeats 4000000 in
set_option maxRecDepth 100000 in
theorem c_Village_drawnOf {l : Launch} {G : zLA} {v : Nat} (hv : zvl G v) {a0 : Int32} {σ : zSt} {r : Int32} {σ' : zSt} (hf : F_Village_drawnOf v a0 σ = some (r, σ')) : zM l G y_Village_drawnOf (zws y_Village_drawnOf b_Village_drawnOf 4 (some .int)) rm_Village_drawnOf [.ref (zad G v 0), .int a0] σ (some (.int r)) σ' := by
  refine z_ofM (own := "VillageWaves$Village") (lv := [(0, .ref (zad G v 0)), (1, .int a0)]) (by decide +kernel) rfl rfl (Nat.le_of_ble_eq_true rfl) (fun p e s m args below meth c C => ?_)
  rw [F_Village_drawnOf] at hf
  refine z_aload_n C d_Village_drawnOf_0 0 rfl rfl ?_
  refine z_aload_n C d_Village_drawnOf_1 0 rfl rfl ?_
  refine gf_Village_36 C (zlv hv 0 rfl) rfl rfl d_Village_drawnOf_2 ?_
  refine z_iload_n C d_Village_drawnOf_5 1 rfl rfl ?_
  obtain ⟨r2, h1, hf⟩ := bd_s hf
  refine z_cVi C kl_Village_203 rfl (c_Homes_sharesOf hv h1) (zlv hv 3 rfl) rfl rfl rfl (Nat.le_of_ble_eq_true rfl) ⟨(Nat.le_of_ble_eq_true rfl), (Nat.le_of_ble_eq_true rfl)⟩ ⟨(Nat.le_of_ble_eq_true rfl), (Nat.le_of_ble_eq_true rfl)⟩ d_Village_drawnOf_6 ?_
  obtain ⟨r4, σ5, h3, hf⟩ := bd2_s hf
  refine z_cVi C kl_Village_206 rfl (c_Village_draw hv h3) (zlv hv 0 rfl) rfl rfl rfl (Nat.le_of_ble_eq_true rfl) ⟨(Nat.le_of_ble_eq_true rfl), (Nat.le_of_ble_eq_true rfl)⟩ ⟨(Nat.le_of_ble_eq_true rfl), (Nat.le_of_ble_eq_true rfl)⟩ d_Village_drawnOf_9 ?_
  refine z_istore_n C d_Village_drawnOf_12 rfl (by decide) ?_
  refine z_iconst C d_Village_drawnOf_13 zki_0 ?_
  refine z_istore_n C d_Village_drawnOf_14 rfl (by decide) ?_
  exact z_sub [2, 3, 1, 0] rfl ((w_Village_drawnOf C hv zK) _ _ _ _ hf)
abbrev rm_Village_spendOnAir : Room := { frames := 2, cells := 0, slots := 0, locals := 45 }
theorem d_Village_spendOnAir_0 : decode b_Village_spendOnAir 0 = .ok (.aload_n 0, 1) := by decide +kernel
theorem d_Village_spendOnAir_1 : decode b_Village_spendOnAir 1 = .ok (.getfield 29, 3) := by decide +kernel
theorem d_Village_spendOnAir_4 : decode b_Village_spendOnAir 4 = .ok (.iconst 1, 1) := by decide +kernel
theorem d_Village_spendOnAir_5 : decode b_Village_spendOnAir 5 = .ok (.invokevirtual 134, 3) := by decide +kernel
theorem d_Village_spendOnAir_8 : decode b_Village_spendOnAir 8 = .ok (.istore_n 2, 1) := by decide +kernel
theorem d_Village_spendOnAir_9 : decode b_Village_spendOnAir 9 = .ok (.aload_n 0, 1) := by decide +kernel
theorem d_Village_spendOnAir_10 : decode b_Village_spendOnAir 10 = .ok (.invokevirtual 185, 3) := by decide +kernel
theorem d_Village_spendOnAir_13 : decode b_Village_spendOnAir 13 = .ok (.istore_n 3, 1) := by decide +kernel
theorem d_Village_spendOnAir_14 : decode b_Village_spendOnAir 14 = .ok (.iconst 0, 1) := by decide +kernel
theorem d_Village_spendOnAir_15 : decode b_Village_spendOnAir 15 = .ok (.istore 4, 2) := by decide +kernel
theorem d_Village_spendOnAir_17 : decode b_Village_spendOnAir 17 = .ok (.iconst 0, 1) := by decide +kernel
theorem d_Village_spendOnAir_18 : decode b_Village_spendOnAir 18 = .ok (.istore 5, 2) := by decide +kernel
theorem d_Village_spendOnAir_20 : decode b_Village_spendOnAir 20 = .ok (.iload 5, 2) := by decide +kernel
theorem d_Village_spendOnAir_22 : decode b_Village_spendOnAir 22 = .ok (.aload_n 0, 1) := by decide +kernel
theorem d_Village_spendOnAir_23 : decode b_Village_spendOnAir 23 = .ok (.getfield 36, 3) := by decide +kernel
theorem d_Village_spendOnAir_26 : decode b_Village_spendOnAir 26 = .ok (.getfield 190, 3) := by decide +kernel
theorem d_Village_spendOnAir_29 : decode b_Village_spendOnAir 29 = .ok (.if_icmp .ge 81, 3) := by decide +kernel
theorem d_Village_spendOnAir_32 : decode b_Village_spendOnAir 32 = .ok (.aload_n 0, 1) := by decide +kernel
theorem d_Village_spendOnAir_33 : decode b_Village_spendOnAir 33 = .ok (.getfield 36, 3) := by decide +kernel
theorem d_Village_spendOnAir_36 : decode b_Village_spendOnAir 36 = .ok (.getfield 145, 3) := by decide +kernel
theorem d_Village_spendOnAir_39 : decode b_Village_spendOnAir 39 = .ok (.iload_n 1, 1) := by decide +kernel
theorem d_Village_spendOnAir_40 : decode b_Village_spendOnAir 40 = .ok (.invokevirtual 134, 3) := by decide +kernel
theorem d_Village_spendOnAir_43 : decode b_Village_spendOnAir 43 = .ok (.iload 5, 2) := by decide +kernel
theorem d_Village_spendOnAir_45 : decode b_Village_spendOnAir 45 = .ok (.invokestatic 138, 3) := by decide +kernel
theorem d_Village_spendOnAir_48 : decode b_Village_spendOnAir 48 = .ok (.ifCond .eq 56, 3) := by decide +kernel
theorem d_Village_spendOnAir_51 : decode b_Village_spendOnAir 51 = .ok (.aload_n 0, 1) := by decide +kernel
theorem d_Village_spendOnAir_52 : decode b_Village_spendOnAir 52 = .ok (.getfield 36, 3) := by decide +kernel
theorem d_Village_spendOnAir_55 : decode b_Village_spendOnAir 55 = .ok (.getfield 194, 3) := by decide +kernel
theorem d_Village_spendOnAir_58 : decode b_Village_spendOnAir 58 = .ok (.iload 5, 2) := by decide +kernel
theorem d_Village_spendOnAir_60 : decode b_Village_spendOnAir 60 = .ok (.invokevirtual 134, 3) := by decide +kernel
theorem d_Village_spendOnAir_63 : decode b_Village_spendOnAir 63 = .ok (.iload_n 2, 1) := by decide +kernel
theorem d_Village_spendOnAir_64 : decode b_Village_spendOnAir 64 = .ok (.if_icmp .lt 40, 3) := by decide +kernel
theorem d_Village_spendOnAir_67 : decode b_Village_spendOnAir 67 = .ok (.aload_n 0, 1) := by decide +kernel
theorem d_Village_spendOnAir_68 : decode b_Village_spendOnAir 68 = .ok (.getfield 36, 3) := by decide +kernel
theorem d_Village_spendOnAir_71 : decode b_Village_spendOnAir 71 = .ok (.iload 5, 2) := by decide +kernel
theorem d_Village_spendOnAir_73 : decode b_Village_spendOnAir 73 = .ok (.iload_n 3, 1) := by decide +kernel
theorem d_Village_spendOnAir_74 : decode b_Village_spendOnAir 74 = .ok (.invokevirtual 200, 3) := by decide +kernel
theorem d_Village_spendOnAir_77 : decode b_Village_spendOnAir 77 = .ok (.ifCond .ne 27, 3) := by decide +kernel
theorem d_Village_spendOnAir_80 : decode b_Village_spendOnAir 80 = .ok (.aload_n 0, 1) := by decide +kernel
theorem d_Village_spendOnAir_81 : decode b_Village_spendOnAir 81 = .ok (.getfield 36, 3) := by decide +kernel
theorem d_Village_spendOnAir_84 : decode b_Village_spendOnAir 84 = .ok (.getfield 194, 3) := by decide +kernel
theorem d_Village_spendOnAir_87 : decode b_Village_spendOnAir 87 = .ok (.iload 5, 2) := by decide +kernel
theorem d_Village_spendOnAir_89 : decode b_Village_spendOnAir 89 = .ok (.iload_n 2, 1) := by decide +kernel
theorem d_Village_spendOnAir_90 : decode b_Village_spendOnAir 90 = .ok (.ineg, 1) := by decide +kernel
theorem d_Village_spendOnAir_91 : decode b_Village_spendOnAir 91 = .ok (.invokevirtual 213, 3) := by decide +kernel
theorem d_Village_spendOnAir_94 : decode b_Village_spendOnAir 94 = .ok (.iload 4, 2) := by decide +kernel
theorem d_Village_spendOnAir_96 : decode b_Village_spendOnAir 96 = .ok (.iload 5, 2) := by decide +kernel
theorem d_Village_spendOnAir_98 : decode b_Village_spendOnAir 98 = .ok (.invokestatic 154, 3) := by decide +kernel
theorem d_Village_spendOnAir_101 : decode b_Village_spendOnAir 101 = .ok (.ior, 1) := by decide +kernel
theorem d_Village_spendOnAir_102 : decode b_Village_spendOnAir 102 = .ok (.istore 4, 2) := by decide +kernel
theorem d_Village_spendOnAir_104 : decode b_Village_spendOnAir 104 = .ok (.iinc 5 1, 3) := by decide +kernel
theorem d_Village_spendOnAir_107 : decode b_Village_spendOnAir 107 = .ok (.goto (-87), 3) := by decide +kernel
theorem d_Village_spendOnAir_110 : decode b_Village_spendOnAir 110 = .ok (.aload_n 0, 1) := by decide +kernel
theorem d_Village_spendOnAir_111 : decode b_Village_spendOnAir 111 = .ok (.getfield 36, 3) := by decide +kernel
theorem d_Village_spendOnAir_114 : decode b_Village_spendOnAir 114 = .ok (.getfield 194, 3) := by decide +kernel
theorem d_Village_spendOnAir_117 : decode b_Village_spendOnAir 117 = .ok (.iload_n 1, 1) := by decide +kernel
theorem d_Village_spendOnAir_118 : decode b_Village_spendOnAir 118 = .ok (.aload_n 0, 1) := by decide +kernel
theorem d_Village_spendOnAir_119 : decode b_Village_spendOnAir 119 = .ok (.getfield 29, 3) := by decide +kernel
theorem d_Village_spendOnAir_122 : decode b_Village_spendOnAir 122 = .ok (.iconst 0, 1) := by decide +kernel
theorem d_Village_spendOnAir_123 : decode b_Village_spendOnAir 123 = .ok (.invokevirtual 134, 3) := by decide +kernel
theorem d_Village_spendOnAir_126 : decode b_Village_spendOnAir 126 = .ok (.ineg, 1) := by decide +kernel
theorem d_Village_spendOnAir_127 : decode b_Village_spendOnAir 127 = .ok (.invokevirtual 213, 3) := by decide +kernel
theorem d_Village_spendOnAir_130 : decode b_Village_spendOnAir 130 = .ok (.aload_n 0, 1) := by decide +kernel
theorem d_Village_spendOnAir_131 : decode b_Village_spendOnAir 131 = .ok (.getfield 36, 3) := by decide +kernel
theorem d_Village_spendOnAir_134 : decode b_Village_spendOnAir 134 = .ok (.getfield 197, 3) := by decide +kernel
theorem d_Village_spendOnAir_137 : decode b_Village_spendOnAir 137 = .ok (.iload_n 1, 1) := by decide +kernel
theorem d_Village_spendOnAir_138 : decode b_Village_spendOnAir 138 = .ok (.iconst 1, 1) := by decide +kernel
theorem d_Village_spendOnAir_139 : decode b_Village_spendOnAir 139 = .ok (.invokevirtual 213, 3) := by decide +kernel
theorem d_Village_spendOnAir_142 : decode b_Village_spendOnAir 142 = .ok (.aload_n 0, 1) := by decide +kernel
theorem d_Village_spendOnAir_143 : decode b_Village_spendOnAir 143 = .ok (.getfield 36, 3) := by decide +kernel
theorem d_Village_spendOnAir_146 : decode b_Village_spendOnAir 146 = .ok (.getfield 215, 3) := by decide +kernel
theorem d_Village_spendOnAir_149 : decode b_Village_spendOnAir 149 = .ok (.iload_n 1, 1) := by decide +kernel
theorem d_Village_spendOnAir_150 : decode b_Village_spendOnAir 150 = .ok (.iconst 1, 1) := by decide +kernel
theorem d_Village_spendOnAir_151 : decode b_Village_spendOnAir 151 = .ok (.invokevirtual 213, 3) := by decide +kernel
theorem d_Village_spendOnAir_154 : decode b_Village_spendOnAir 154 = .ok (.aload_n 0, 1) := by decide +kernel
theorem d_Village_spendOnAir_155 : decode b_Village_spendOnAir 155 = .ok (.dup, 1) := by decide +kernel
theorem d_Village_spendOnAir_156 : decode b_Village_spendOnAir 156 = .ok (.getfield 21, 3) := by decide +kernel
theorem d_Village_spendOnAir_159 : decode b_Village_spendOnAir 159 = .ok (.aload_n 0, 1) := by decide +kernel
theorem d_Village_spendOnAir_160 : decode b_Village_spendOnAir 160 = .ok (.getfield 29, 3) := by decide +kernel
theorem d_Village_spendOnAir_163 : decode b_Village_spendOnAir 163 = .ok (.iconst 0, 1) := by decide +kernel
theorem d_Village_spendOnAir_164 : decode b_Village_spendOnAir 164 = .ok (.invokevirtual 134, 3) := by decide +kernel
theorem d_Village_spendOnAir_167 : decode b_Village_spendOnAir 167 = .ok (.iload_n 2, 1) := by decide +kernel
theorem d_Village_spendOnAir_168 : decode b_Village_spendOnAir 168 = .ok (.iload 4, 2) := by decide +kernel
theorem d_Village_spendOnAir_170 : decode b_Village_spendOnAir 170 = .ok (.invokestatic 218, 3) := by decide +kernel
theorem d_Village_spendOnAir_173 : decode b_Village_spendOnAir 173 = .ok (.imul, 1) := by decide +kernel
theorem d_Village_spendOnAir_174 : decode b_Village_spendOnAir 174 = .ok (.iadd, 1) := by decide +kernel
theorem d_Village_spendOnAir_175 : decode b_Village_spendOnAir 175 = .ok (.iadd, 1) := by decide +kernel
theorem d_Village_spendOnAir_176 : decode b_Village_spendOnAir 176 = .ok (.putfield 21, 3) := by decide +kernel
theorem d_Village_spendOnAir_179 : decode b_Village_spendOnAir 179 = .ok (.iload 4, 2) := by decide +kernel
theorem d_Village_spendOnAir_181 : decode b_Village_spendOnAir 181 = .ok (.ireturn, 1) := by decide +kernel
def L_Village_spendOnAir (v : Nat) : Nat → Nat → Int32 → Int32 → Int32 → Int32 → Int32 → zSt → Option (Int32 × zSt)
  | 0, _, _, _, _, _, _, _ => none
  | n + 1, 0, x1, x2, x3, x4, x5, σ => if (σ.1 v 3 0) ≤ x5 then ((F_Row_get v 1 (0 : Int32) σ).bind fun r6 => (F_Row_add v 10 x1 (-r6) σ).bind fun σ8 => (F_Row_add v 18 x1 (1 : Int32) σ8).bind fun σ10 => (F_Row_add v 20 x1 (1 : Int32) σ10).bind fun σ12 => (F_Row_get v 1 (0 : Int32) σ12).bind fun r14 => (F_Integer_bitCount x4).bind fun r16 => some (x4, (zst σ12 v 0 3 ((σ12.1 v 0 3) + (r14 + (x2 * r16)))))) else ((F_Row_get v 22 x1 σ).bind fun r18 => (F_Waves_contains r18 x5 σ).bind fun r20 => if r20 = 0 then L_Village_spendOnAir v n 0 x1 x2 x3 x4 (x5 + (1 : Int32)) σ else ((F_Row_get v 10 x5 σ).bind fun r22 => if r22 < x2 then L_Village_spendOnAir v n 0 x1 x2 x3 x4 (x5 + (1 : Int32)) σ else ((F_Homes_isQuiet v x5 x3 σ).bind fun r24 => if r24 = 0 then ((F_Row_add v 10 x5 (-x2) σ).bind fun σ26 => (F_Waves_bit x5 σ26).bind fun r28 => L_Village_spendOnAir v n 0 x1 x2 x3 (x4 ||| r28) (x5 + (1 : Int32)) σ26) else L_Village_spendOnAir v n 0 x1 x2 x3 x4 (x5 + (1 : Int32)) σ)))
  | _ + 1, _, _, _, _, _, _, _ => none
theorem e_Village_spendOnAir_0 (v : Nat) (n : Nat) (x1 : Int32) (x2 : Int32) (x3 : Int32) (x4 : Int32) (x5 : Int32) (σ : zSt) : L_Village_spendOnAir v (n + 1) 0 x1 x2 x3 x4 x5 σ = (if (σ.1 v 3 0) ≤ x5 then ((F_Row_get v 1 (0 : Int32) σ).bind fun r6 => (F_Row_add v 10 x1 (-r6) σ).bind fun σ8 => (F_Row_add v 18 x1 (1 : Int32) σ8).bind fun σ10 => (F_Row_add v 20 x1 (1 : Int32) σ10).bind fun σ12 => (F_Row_get v 1 (0 : Int32) σ12).bind fun r14 => (F_Integer_bitCount x4).bind fun r16 => some (x4, (zst σ12 v 0 3 ((σ12.1 v 0 3) + (r14 + (x2 * r16)))))) else ((F_Row_get v 22 x1 σ).bind fun r18 => (F_Waves_contains r18 x5 σ).bind fun r20 => if r20 = 0 then L_Village_spendOnAir v n 0 x1 x2 x3 x4 (x5 + (1 : Int32)) σ else ((F_Row_get v 10 x5 σ).bind fun r22 => if r22 < x2 then L_Village_spendOnAir v n 0 x1 x2 x3 x4 (x5 + (1 : Int32)) σ else ((F_Homes_isQuiet v x5 x3 σ).bind fun r24 => if r24 = 0 then ((F_Row_add v 10 x5 (-x2) σ).bind fun σ26 => (F_Waves_bit x5 σ26).bind fun r28 => L_Village_spendOnAir v n 0 x1 x2 x3 (x4 ||| r28) (x5 + (1 : Int32)) σ26) else L_Village_spendOnAir v n 0 x1 x2 x3 x4 (x5 + (1 : Int32)) σ)))) := rfl
set_option maxHeartbeats 4000000 in
set_option maxRecDepth 100000 in
theorem w_Village_spendOnAir {l : Launch} {G : zLA} {p : Program} {e : Env} {s : State} {m : MethodId} {args : Array Value} {below : List Frame} {meth : Method} {c : Code} (C : zCx G p s m args meth c "VillageWaves$Village" b_Village_spendOnAir 6 (some .int)) {v : Nat} (hv : zvl G v) {r : Int32} {σ' : zSt} : ∀ n : Nat, (∀ (x1 : Int32) (x2 : Int32) (x3 : Int32) (x4 : Int32) (x5 : Int32) (σ : zSt), L_Village_spendOnAir v n 0 x1 x2 x3 x4 x5 σ = some (r, σ') → zWV G p l e rm_Village_spendOnAir s m args below meth c 6 0 0 (zQ G below args s rm_Village_spendOnAir (some (.int r)) σ') 20 [(0, .ref (zad G v 0)), (1, .int x1), (2, .int x2), (3, .int x3), (4, .int x4), (5, .int x5)] [] σ) := by
  intro n
  induction n with
  | zero => exact fun _ _ _ _ _ _ hf => (by cases hf)
  | succ n ih =>
    refine ?_
    · intro x1 x2 x3 x4 x5 σ hf
      rw [e_Village_spendOnAir_0] at hf
      refine z_iload C d_Village_spendOnAir_20 5 rfl ?_
      refine z_aload_n C d_Village_spendOnAir_22 0 rfl rfl ?_
      refine gf_Village_36 C (zlv hv 0 rfl) rfl rfl d_Village_spendOnAir_23 ?_
      refine gf_Village_190 C (zlv hv 3 rfl) rfl rfl d_Village_spendOnAir_26 ?_
      refine z_icmp_ge (tgt := 110) C d_Village_spendOnAir_29 rfl (fun h32 => ?_) (fun h32 => ?_)
      · have hf := iff_t hf h32
        refine z_aload_n C d_Village_spendOnAir_110 0 rfl rfl ?_
        refine gf_Village_36 C (zlv hv 0 rfl) rfl rfl d_Village_spendOnAir_111 ?_
        refine gf_Village_194 C (zlv hv 3 rfl) rfl rfl d_Village_spendOnAir_114 ?_
        refine z_iload_n C d_Village_spendOnAir_117 1 rfl rfl ?_
        refine z_aload_n C d_Village_spendOnAir_118 0 rfl rfl ?_
        refine gf_Village_29 C (zlv hv 0 rfl) rfl rfl d_Village_spendOnAir_119 ?_
        refine z_iconst C d_Village_spendOnAir_122 zki_0 ?_
        obtain ⟨r6, h5, hf⟩ := bd_s hf
        refine z_cVi C kl_Village_134 rfl (c_Row_get (zrow_v hv 1 rfl) h5) (zlv hv 1 rfl) rfl rfl rfl (Nat.le_of_ble_eq_true rfl) ⟨(Nat.le_of_ble_eq_true rfl), (Nat.le_of_ble_eq_true rfl)⟩ ⟨(Nat.le_of_ble_eq_true rfl), (Nat.le_of_ble_eq_true rfl)⟩ d_Village_spendOnAir_123 ?_
        refine z_ineg C d_Village_spendOnAir_126 ?_
        obtain ⟨σ8, h7, hf⟩ := bd_s hf
        refine z_cVv C kl_Village_213 rfl (c_Row_add (zrow_v hv 10 rfl) h7) (zlv hv 10 rfl) rfl rfl rfl (Nat.le_of_ble_eq_true rfl) ⟨(Nat.le_of_ble_eq_true rfl), (Nat.le_of_ble_eq_true rfl)⟩ ⟨(Nat.le_of_ble_eq_true rfl), (Nat.le_of_ble_eq_true rfl)⟩ d_Village_spendOnAir_127 ?_
        refine z_aload_n C d_Village_spendOnAir_130 0 rfl rfl ?_
        refine gf_Village_36 C (zlv hv 0 rfl) rfl rfl d_Village_spendOnAir_131 ?_
        refine gf_Village_197 C (zlv hv 3 rfl) rfl rfl d_Village_spendOnAir_134 ?_
        refine z_iload_n C d_Village_spendOnAir_137 1 rfl rfl ?_
        refine z_iconst C d_Village_spendOnAir_138 zki_1 ?_
        obtain ⟨σ10, h9, hf⟩ := bd_s hf
        refine z_cVv C kl_Village_213 rfl (c_Row_add (zrow_v hv 18 rfl) h9) (zlv hv 18 rfl) rfl rfl rfl (Nat.le_of_ble_eq_true rfl) ⟨(Nat.le_of_ble_eq_true rfl), (Nat.le_of_ble_eq_true rfl)⟩ ⟨(Nat.le_of_ble_eq_true rfl), (Nat.le_of_ble_eq_true rfl)⟩ d_Village_spendOnAir_139 ?_
        refine z_aload_n C d_Village_spendOnAir_142 0 rfl rfl ?_
        refine gf_Village_36 C (zlv hv 0 rfl) rfl rfl d_Village_spendOnAir_143 ?_
        refine gf_Village_215 C (zlv hv 3 rfl) rfl rfl d_Village_spendOnAir_146 ?_
        refine z_iload_n C d_Village_spendOnAir_149 1 rfl rfl ?_
        refine z_iconst C d_Village_spendOnAir_150 zki_1 ?_
        obtain ⟨σ12, h11, hf⟩ := bd_s hf
        refine z_cVv C kl_Village_213 rfl (c_Row_add (zrow_v hv 20 rfl) h11) (zlv hv 20 rfl) rfl rfl rfl (Nat.le_of_ble_eq_true rfl) ⟨(Nat.le_of_ble_eq_true rfl), (Nat.le_of_ble_eq_true rfl)⟩ ⟨(Nat.le_of_ble_eq_true rfl), (Nat.le_of_ble_eq_true rfl)⟩ d_Village_spendOnAir_151 ?_
        refine z_aload_n C d_Village_spendOnAir_154 0 rfl rfl ?_
        refine z_dup C d_Village_spendOnAir_155 rfl ?_
        refine gf_Village_21 C (zlv hv 0 rfl) rfl rfl d_Village_spendOnAir_156 ?_
        refine z_aload_n C d_Village_spendOnAir_159 0 rfl rfl ?_
        refine gf_Village_29 C (zlv hv 0 rfl) rfl rfl d_Village_spendOnAir_160 ?_
        refine z_iconst C d_Village_spendOnAir_163 zki_0 ?_
        obtain ⟨r14, h13, hf⟩ := bd_s hf
        refine z_cVi C kl_Village_134 rfl (c_Row_get (zrow_v hv 1 rfl) h13) (zlv hv 1 rfl) rfl rfl rfl (Nat.le_of_ble_eq_true rfl) ⟨(Nat.le_of_ble_eq_true rfl), (Nat.le_of_ble_eq_true rfl)⟩ ⟨(Nat.le_of_ble_eq_true rfl), (Nat.le_of_ble_eq_true rfl)⟩ d_Village_spendOnAir_164 ?_
        refine z_iload_n C d_Village_spendOnAir_167 2 rfl rfl ?_
        refine z_iload C d_Village_spendOnAir_168 4 rfl ?_
        obtain ⟨r16, h15, hf⟩ := bd_s hf
        refine z_cSi C kl_Village_218 (c_Integer_bitCount h15) rfl rfl (Nat.le_of_ble_eq_true rfl) ⟨(Nat.le_of_ble_eq_true rfl), (Nat.le_of_ble_eq_true rfl)⟩ ⟨(Nat.le_of_ble_eq_true rfl), (Nat.le_of_ble_eq_true rfl)⟩ d_Village_spendOnAir_170 ?_
        refine z_imul C d_Village_spendOnAir_173 ?_
        refine z_iadd C d_Village_spendOnAir_174 ?_
        refine z_iadd C d_Village_spendOnAir_175 ?_
        refine pf_Village_21 C (zlv hv 0 rfl) rfl (Nat.le_of_ble_eq_true rfl) rfl d_Village_spendOnAir_176 ?_
        refine z_iload C d_Village_spendOnAir_179 4 rfl ?_
        cases hf
        exact z_iret C rfl (Nat.le_of_ble_eq_true rfl) (Nat.le_of_ble_eq_true rfl) d_Village_spendOnAir_181
      · have hf := iff_f hf h32
        refine z_aload_n C d_Village_spendOnAir_32 0 rfl rfl ?_
        refine gf_Village_36 C (zlv hv 0 rfl) rfl rfl d_Village_spendOnAir_33 ?_
        refine gf_Village_145 C (zlv hv 3 rfl) rfl rfl d_Village_spendOnAir_36 ?_
        refine z_iload_n C d_Village_spendOnAir_39 1 rfl rfl ?_
        obtain ⟨r18, h17, hf⟩ := bd_s hf
        refine z_cVi C kl_Village_134 rfl (c_Row_get (zrow_v hv 22 rfl) h17) (zlv hv 22 rfl) rfl rfl rfl (Nat.le_of_ble_eq_true rfl) ⟨(Nat.le_of_ble_eq_true rfl), (Nat.le_of_ble_eq_true rfl)⟩ ⟨(Nat.le_of_ble_eq_true rfl), (Nat.le_of_ble_eq_true rfl)⟩ d_Village_spendOnAir_40 ?_
        refine z_iload C d_Village_spendOnAir_43 5 rfl ?_
        obtain ⟨r20, h19, hf⟩ := bd_s hf
        refine z_cSNi C kl_Village_138 (c_Waves_contains h19) rfl rfl (Nat.le_of_ble_eq_true rfl) ⟨(Nat.le_of_ble_eq_true rfl), (Nat.le_of_ble_eq_true rfl)⟩ ⟨(Nat.le_of_ble_eq_true rfl), (Nat.le_of_ble_eq_true rfl)⟩ d_Village_spendOnAir_45 ?_
        refine z_if_eq (tgt := 104) C d_Village_spendOnAir_48 rfl (fun h31 => ?_) (fun h31 => ?_)
        · have hf := iff_t hf h31
          refine z_iinc C d_Village_spendOnAir_104 5 rfl zki_1 (by decide) ?_
          refine z_goto (tgt := 20) C d_Village_spendOnAir_107 rfl ?_
          exact z_sub [1, 2, 3, 4, 5, 0] rfl (ih _ _ _ _ _ _ hf)
        · have hf := iff_f hf h31
          refine z_aload_n C d_Village_spendOnAir_51 0 rfl rfl ?_
          refine gf_Village_36 C (zlv hv 0 rfl) rfl rfl d_Village_spendOnAir_52 ?_
          refine gf_Village_194 C (zlv hv 3 rfl) rfl rfl d_Village_spendOnAir_55 ?_
          refine z_iload C d_Village_spendOnAir_58 5 rfl ?_
          obtain ⟨r22, h21, hf⟩ := bd_s hf
          refine z_cVi C kl_Village_134 rfl (c_Row_get (zrow_v hv 10 rfl) h21) (zlv hv 10 rfl) rfl rfl rfl (Nat.le_of_ble_eq_true rfl) ⟨(Nat.le_of_ble_eq_true rfl), (Nat.le_of_ble_eq_true rfl)⟩ ⟨(Nat.le_of_ble_eq_true rfl), (Nat.le_of_ble_eq_true rfl)⟩ d_Village_spendOnAir_60 ?_
          refine z_iload_n C d_Village_spendOnAir_63 2 rfl rfl ?_
          refine z_icmp_lt (tgt := 104) C d_Village_spendOnAir_64 rfl (fun h30 => ?_) (fun h30 => ?_)
          · have hf := iff_t hf h30
            refine z_iinc C d_Village_spendOnAir_104 5 rfl zki_1 (by decide) ?_
            refine z_goto (tgt := 20) C d_Village_spendOnAir_107 rfl ?_
            exact z_sub [1, 2, 3, 4, 5, 0] rfl (ih _ _ _ _ _ _ hf)
          · have hf := iff_f hf h30
            refine z_aload_n C d_Village_spendOnAir_67 0 rfl rfl ?_
            refine gf_Village_36 C (zlv hv 0 rfl) rfl rfl d_Village_spendOnAir_68 ?_
            refine z_iload C d_Village_spendOnAir_71 5 rfl ?_
            refine z_iload_n C d_Village_spendOnAir_73 3 rfl rfl ?_
            obtain ⟨r24, h23, hf⟩ := bd_s hf
            refine z_cVi C kl_Village_200 rfl (c_Homes_isQuiet hv h23) (zlv hv 3 rfl) rfl rfl rfl (Nat.le_of_ble_eq_true rfl) ⟨(Nat.le_of_ble_eq_true rfl), (Nat.le_of_ble_eq_true rfl)⟩ ⟨(Nat.le_of_ble_eq_true rfl), (Nat.le_of_ble_eq_true rfl)⟩ d_Village_spendOnAir_74 ?_
            refine z_if_ne (tgt := 104) C d_Village_spendOnAir_77 rfl (fun h29 => ?_) (fun h29 => ?_)
            · have hf := iff_f hf h29
              refine z_iinc C d_Village_spendOnAir_104 5 rfl zki_1 (by decide) ?_
              refine z_goto (tgt := 20) C d_Village_spendOnAir_107 rfl ?_
              exact z_sub [1, 2, 3, 4, 5, 0] rfl (ih _ _ _ _ _ _ hf)
            · have hf := iff_t hf h29
              refine z_aload_n C d_Village_spendOnAir_80 0 rfl rfl ?_
              refine gf_Village_36 C (zlv hv 0 rfl) rfl rfl d_Village_spendOnAir_81 ?_
              refine gf_Village_194 C (zlv hv 3 rfl) rfl rfl d_Village_spendOnAir_84 ?_
              refine z_iload C d_Village_spendOnAir_87 5 rfl ?_
              refine z_iload_n C d_Village_spendOnAir_89 2 rfl rfl ?_
              refine z_ineg C d_Village_spendOnAir_90 ?_
              obtain ⟨σ26, h25, hf⟩ := bd_s hf
              refine z_cVv C kl_Village_213 rfl (c_Row_add (zrow_v hv 10 rfl) h25) (zlv hv 10 rfl) rfl rfl rfl (Nat.le_of_ble_eq_true rfl) ⟨(Nat.le_of_ble_eq_true rfl), (Nat.le_of_ble_eq_true rfl)⟩ ⟨(Nat.le_of_ble_eq_true rfl), (Nat.le_of_ble_eq_true rfl)⟩ d_Village_spendOnAir_91 ?_
              refine z_iload C d_Village_spendOnAir_94 4 rfl ?_
              refine z_iload C d_Village_spendOnAir_96 5 rfl ?_
              obtain ⟨r28, h27, hf⟩ := bd_s hf
              refine z_cSNi C kl_Village_154 (c_Waves_bit h27) rfl rfl (Nat.le_of_ble_eq_true rfl) ⟨(Nat.le_of_ble_eq_true rfl), (Nat.le_of_ble_eq_true rfl)⟩ ⟨(Nat.le_of_ble_eq_true rfl), (Nat.le_of_ble_eq_true rfl)⟩ d_Village_spendOnAir_98 ?_
              refine z_ior C d_Village_spendOnAir_101 ?_
              refine z_istore C d_Village_spendOnAir_102 (by decide) ?_
              refine z_iinc C d_Village_spendOnAir_104 5 rfl zki_1 (by decide) ?_
              refine z_goto (tgt := 20) C d_Village_spendOnAir_107 rfl ?_
              exact z_sub [2, 3, 4, 5, 1, 0] rfl (ih _ _ _ _ _ _ hf)
def F_Village_spendOnAir (v : Nat) (a0 : Int32) (σ : zSt) : Option (Int32 × zSt) :=
  (F_Row_get v 1 (1 : Int32) σ).bind fun r2 => (F_Village_minuteOfDay v σ).bind fun r4 => L_Village_spendOnAir v zK 0 a0 r2 r4 (0 : Int32) (0 : Int32) σ
set_option maxHeartbeats 4000000 in
set_option maxRecDepth 100000 in
theorem c_Village_spendOnAir {l : Launch} {G : zLA} {v : Nat} (hv : zvl G v) {a0 : Int32} {σ : zSt} {r : Int32} {σ' : zSt} (hf : F_Village_spendOnAir v a0 σ = some (r, σ')) : zM l G y_Village_spendOnAir (zws y_Village_spendOnAir b_Village_spendOnAir 6 (some .int)) rm_Village_spendOnAir [.ref (zad G v 0), .int a0] σ (some (.int r)) σ' := by
  refine z_ofM (own := "VillageWaves$Village") (lv := [(0, .ref (zad G v 0)), (1, .int a0)]) (by decide +kernel) rfl rfl (Nat.le_of_ble_eq_true rfl) (fun p e s m args below meth c C => ?_)
  rw [F_Village_spendOnAir] at hf
  refine z_aload_n C d_Village_spendOnAir_0 0 rfl rfl ?_
  refine gf_Village_29 C (zlv hv 0 rfl) rfl rfl d_Village_spendOnAir_1 ?_
  refine z_iconst C d_Village_spendOnAir_4 zki_1 ?_
  obtain ⟨r2, h1, hf⟩ := bd_s hf
  refine z_cVi C kl_Village_134 rfl (c_Row_get (zrow_v hv 1 rfl) h1) (zlv hv 1 rfl) rfl rfl rfl (Nat.le_of_ble_eq_true rfl) ⟨(Nat.le_of_ble_eq_true rfl), (Nat.le_of_ble_eq_true rfl)⟩ ⟨(Nat.le_of_ble_eq_true rfl), (Nat.le_of_ble_eq_true rfl)⟩ d_Village_spendOnAir_5 ?_
  refine z_istore_n C d_Village_spendOnAir_8 rfl (by decide) ?_
  refine z_aload_n C d_Village_spendOnAir_9 1 rfl rfl ?_
  obtain ⟨r4, h3, hf⟩ := bd_s hf
  refine z_cVi C kl_Village_185 rfl (c_Village_minuteOfDay hv h3) (zlv hv 0 rfl) rfl rfl rfl (Nat.le_of_ble_eq_true rfl) ⟨(Nat.le_of_ble_eq_true rfl), (Nat.le_of_ble_eq_true rfl)⟩ ⟨(Nat.le_of_ble_eq_true rfl), (Nat.le_of_ble_eq_true rfl)⟩ d_Village_spendOnAir_10 ?_
  refine z_istore_n C d_Village_spendOnAir_13 rfl (by decide) ?_
  refine z_iconst C d_Village_spendOnAir_14 zki_0 ?_
  refine z_istore C d_Village_spendOnAir_15 (by decide) ?_
  refine z_iconst C d_Village_spendOnAir_17 zki_0 ?_
  refine z_istore C d_Village_spendOnAir_18 (by decide) ?_
  exact z_sub [4, 5, 3, 2, 1, 0] rfl ((w_Village_spendOnAir C hv zK) _ _ _ _ _ _ hf)
abbrev rm_Village_dropSettledEntries : Room := { frames := 2, cells := 0, slots := 0, locals := 44 }
theorem d_Village_dropSettledEntries_0 : decode b_Village_dropSettledEntries 0 = .ok (.iconst 0, 1) := by decide +kernel
theorem d_Village_dropSettledEntries_1 : decode b_Village_dropSettledEntries 1 = .ok (.istore_n 2, 1) := by decide +kernel
theorem d_Village_dropSettledEntries_2 : decode b_Village_dropSettledEntries 2 = .ok (.iload_n 2, 1) := by decide +kernel
theorem d_Village_dropSettledEntries_3 : decode b_Village_dropSettledEntries 3 = .ok (.aload_n 0, 1) := by decide +kernel
theorem d_Village_dropSettledEntries_4 : decode b_Village_dropSettledEntries 4 = .ok (.getfield 36, 3) := by decide +kernel
theorem d_Village_dropSettledEntries_7 : decode b_Village_dropSettledEntries 7 = .ok (.getfield 190, 3) := by decide +kernel
theorem d_Village_dropSettledEntries_10 : decode b_Village_dropSettledEntries 10 = .ok (.if_icmp .ge 27, 3) := by decide +kernel
theorem d_Village_dropSettledEntries_13 : decode b_Village_dropSettledEntries 13 = .ok (.aload_n 0, 1) := by decide +kernel
theorem d_Village_dropSettledEntries_14 : decode b_Village_dropSettledEntries 14 = .ok (.iload_n 2, 1) := by decide +kernel
theorem d_Village_dropSettledEntries_15 : decode b_Village_dropSettledEntries 15 = .ok (.iload_n 1, 1) := by decide +kernel
theorem d_Village_dropSettledEntries_16 : decode b_Village_dropSettledEntries 16 = .ok (.invokevirtual 151, 3) := by decide +kernel
theorem d_Village_dropSettledEntries_19 : decode b_Village_dropSettledEntries 19 = .ok (.ifCond .ne 12, 3) := by decide +kernel
theorem d_Village_dropSettledEntries_22 : decode b_Village_dropSettledEntries 22 = .ok (.aload_n 0, 1) := by decide +kernel
theorem d_Village_dropSettledEntries_23 : decode b_Village_dropSettledEntries 23 = .ok (.getfield 54, 3) := by decide +kernel
theorem d_Village_dropSettledEntries_26 : decode b_Village_dropSettledEntries 26 = .ok (.iload_n 2, 1) := by decide +kernel
theorem d_Village_dropSettledEntries_27 : decode b_Village_dropSettledEntries 27 = .ok (.iload_n 1, 1) := by decide +kernel
theorem d_Village_dropSettledEntries_28 : decode b_Village_dropSettledEntries 28 = .ok (.invokevirtual 230, 3) := by decide +kernel
theorem d_Village_dropSettledEntries_31 : decode b_Village_dropSettledEntries 31 = .ok (.iinc 2 1, 3) := by decide +kernel
theorem d_Village_dropSettledEntries_34 : decode b_Village_dropSettledEntries 34 = .ok (.goto (-32), 3) := by decide +kernel
theorem d_Village_dropSettledEntries_37 : decode b_Village_dropSettledEntries 37 = .ok (.return_, 1) := by decide +kernel
def L_Village_dropSettledEntries (v : Nat) : Nat → Nat → Int32 → Int32 → zSt → Option (zSt)
  | 0, _, _, _, _ => none
  | n + 1, 0, x1, x2, σ => if (σ.1 v 3 0) ≤ x2 then some σ else ((F_Village_owedBy v x2 x1 σ).bind fun r2 => if r2 = 0 then ((F_Entries_remove v 48 x2 x1 σ).bind fun σ4 => L_Village_dropSettledEntries v n 0 x1 (x2 + (1 : Int32)) σ4) else L_Village_dropSettledEntries v n 0 x1 (x2 + (1 : Int32)) σ)
  | _ + 1, _, _, _, _ => none
theorem e_Village_dropSettledEntries_0 (v : Nat) (n : Nat) (x1 : Int32) (x2 : Int32) (σ : zSt) : L_Village_dropSettledEntries v (n + 1) 0 x1 x2 σ = (if (σ.1 v 3 0) ≤ x2 then some σ else ((F_Village_owedBy v x2 x1 σ).bind fun r2 => if r2 = 0 then ((F_Entries_remove v 48 x2 x1 σ).bind fun σ4 => L_Village_dropSettledEntries v n 0 x1 (x2 + (1 : Int32)) σ4) else L_Village_dropSettledEntries v n 0 x1 (x2 + (1 : Int32)) σ)) := rfl
set_option maxHeartbeats 4000000 in
set_option maxRecDepth 100000 in
theorem w_Village_dropSettledEntries {l : Launch} {G : zLA} {p : Program} {e : Env} {s : State} {m : MethodId} {args : Array Value} {below : List Frame} {meth : Method} {c : Code} (C : zCx G p s m args meth c "VillageWaves$Village" b_Village_dropSettledEntries 3 none) {v : Nat} (hv : zvl G v) {σ' : zSt} : ∀ n : Nat, (∀ (x1 : Int32) (x2 : Int32) (σ : zSt), L_Village_dropSettledEntries v n 0 x1 x2 σ = some σ' → zWV G p l e rm_Village_dropSettledEntries s m args below meth c 3 0 0 (zQ G below args s rm_Village_dropSettledEntries none σ') 2 [(0, .ref (zad G v 0)), (1, .int x1), (2, .int x2)] [] σ) := by
  intro n
  induction n with
  | zero => exact fun _ _ _ hf => (by cases hf)
  | succ n ih =>
    refine ?_
    · intro x1 x2 σ hf
      rw [e_Village_dropSettledEntries_0] at hf
      refine z_iload_n C d_Village_dropSettledEntries_2 2 rfl rfl ?_
      refine z_aload_n C d_Village_dropSettledEntries_3 0 rfl rfl ?_
      refine gf_Village_36 C (zlv hv 0 rfl) rfl rfl d_Village_dropSettledEntries_4 ?_
      refine gf_Village_190 C (zlv hv 3 rfl) rfl rfl d_Village_dropSettledEntries_7 ?_
      refine z_icmp_ge (tgt := 37) C d_Village_dropSettledEntries_10 rfl (fun h6 => ?_) (fun h6 => ?_)
      · have hf := iff_t hf h6
        cases hf
        exact z_vret C rfl (Nat.le_of_ble_eq_true rfl) (Nat.le_of_ble_eq_true rfl) d_Village_dropSettledEntries_37
      · have hf := iff_f hf h6
        refine z_aload_n C d_Village_dropSettledEntries_13 0 rfl rfl ?_
        refine z_iload_n C d_Village_dropSettledEntries_14 2 rfl rfl ?_
        refine z_iload_n C d_Village_dropSettledEntries_15 1 rfl rfl ?_
        obtain ⟨r2, h1, hf⟩ := bd_s hf
        refine z_cVi C kl_Village_151 rfl (c_Village_owedBy hv h1) (zlv hv 0 rfl) rfl rfl rfl (Nat.le_of_ble_eq_true rfl) ⟨(Nat.le_of_ble_eq_true rfl), (Nat.le_of_ble_eq_true rfl)⟩ ⟨(Nat.le_of_ble_eq_true rfl), (Nat.le_of_ble_eq_true rfl)⟩ d_Village_dropSettledEntries_16 ?_
        refine z_if_ne (tgt := 31) C d_Village_dropSettledEntries_19 rfl (fun h5 => ?_) (fun h5 => ?_)
        · have hf := iff_f hf h5
          refine z_iinc C d_Village_dropSettledEntries_31 2 rfl zki_1 (by decide) ?_
          refine z_goto (tgt := 2) C d_Village_dropSettledEntries_34 rfl ?_
          exact z_sub [1, 2, 0] rfl (ih _ _ _ hf)
        · have hf := iff_t hf h5
          refine z_aload_n C d_Village_dropSettledEntries_22 0 rfl rfl ?_
          refine gf_Village_54 C (zlv hv 0 rfl) rfl rfl d_Village_dropSettledEntries_23 ?_
          refine z_iload_n C d_Village_dropSettledEntries_26 2 rfl rfl ?_
          refine z_iload_n C d_Village_dropSettledEntries_27 1 rfl rfl ?_
          obtain ⟨σ4, h3, hf⟩ := bd_s hf
          refine z_cVv C kl_Village_230 rfl (c_Entries_remove hv (Or.inr rfl) h3) (zlv hv 48 rfl) rfl rfl rfl (Nat.le_of_ble_eq_true rfl) ⟨(Nat.le_of_ble_eq_true rfl), (Nat.le_of_ble_eq_true rfl)⟩ ⟨(Nat.le_of_ble_eq_true rfl), (Nat.le_of_ble_eq_true rfl)⟩ d_Village_dropSettledEntries_28 ?_
          refine z_iinc C d_Village_dropSettledEntries_31 2 rfl zki_1 (by decide) ?_
          refine z_goto (tgt := 2) C d_Village_dropSettledEntries_34 rfl ?_
          exact z_sub [1, 2, 0] rfl (ih _ _ _ hf)
def F_Village_dropSettledEntries (v : Nat) (a0 : Int32) (σ : zSt) : Option (zSt) :=
  L_Village_dropSettledEntries v zK 0 a0 (0 : Int32) σ
set_option maxHeartbeats 4000000 in
set_option maxRecDepth 100000 in
theorem c_Village_dropSettledEntries {l : Launch} {G : zLA} {v : Nat} (hv : zvl G v) {a0 : Int32} {σ : zSt} {σ' : zSt} (hf : F_Village_dropSettledEntries v a0 σ = some σ') : zM l G y_Village_dropSettledEntries (zws y_Village_dropSettledEntries b_Village_dropSettledEntries 3 none) rm_Village_dropSettledEntries [.ref (zad G v 0), .int a0] σ none σ' := by
  refine z_ofM (own := "VillageWaves$Village") (lv := [(0, .ref (zad G v 0)), (1, .int a0)]) (by decide +kernel) rfl rfl (Nat.le_of_ble_eq_true rfl) (fun p e s m args below meth c C => ?_)
  rw [F_Village_dropSettledEntries] at hf
  refine z_iconst C d_Village_dropSettledEntries_0 zki_0 ?_
  refine z_istore_n C d_Village_dropSettledEntries_1 rfl (by decide) ?_
  exact z_sub [1, 2, 0] rfl ((w_Village_dropSettledEntries C hv zK) _ _ _ hf)
abbrev rm_Village_sendCorrection : Room := { frames := 3, cells := 0, slots := 0, locals := 67 }
theorem d_Village_sendCorrection_0 : decode b_Village_sendCorrection 0 = .ok (.iconst 0, 1) := by decide +kernel
theorem d_Village_sendCorrection_1 : decode b_Village_sendCorrection 1 = .ok (.istore 4, 2) := by decide +kernel
theorem d_Village_sendCorrection_3 : decode b_Village_sendCorrection 3 = .ok (.iconst 0, 1) := by decide +kernel
theorem d_Village_sendCorrection_4 : decode b_Village_sendCorrection 4 = .ok (.istore 5, 2) := by decide +kernel
theorem d_Village_sendCorrection_6 : decode b_Village_sendCorrection 6 = .ok (.iload 5, 2) := by decide +kernel
theorem d_Village_sendCorrection_8 : decode b_Village_sendCorrection 8 = .ok (.aload_n 0, 1) := by decide +kernel
theorem d_Village_sendCorrection_9 : decode b_Village_sendCorrection 9 = .ok (.getfield 36, 3) := by decide +kernel
theorem d_Village_sendCorrection_12 : decode b_Village_sendCorrection 12 = .ok (.getfield 190, 3) := by decide +kernel
theorem d_Village_sendCorrection_15 : decode b_Village_sendCorrection 15 = .ok (.if_icmp .ge 54, 3) := by decide +kernel
theorem d_Village_sendCorrection_18 : decode b_Village_sendCorrection 18 = .ok (.iload_n 3, 1) := by decide +kernel
theorem d_Village_sendCorrection_19 : decode b_Village_sendCorrection 19 = .ok (.iload 5, 2) := by decide +kernel
theorem d_Village_sendCorrection_21 : decode b_Village_sendCorrection 21 = .ok (.invokestatic 138, 3) := by decide +kernel
theorem d_Village_sendCorrection_24 : decode b_Village_sendCorrection 24 = .ok (.ifCond .eq 39, 3) := by decide +kernel
theorem d_Village_sendCorrection_27 : decode b_Village_sendCorrection 27 = .ok (.aload_n 0, 1) := by decide +kernel
theorem d_Village_sendCorrection_28 : decode b_Village_sendCorrection 28 = .ok (.getfield 43, 3) := by decide +kernel
theorem d_Village_sendCorrection_31 : decode b_Village_sendCorrection 31 = .ok (.getfield 131, 3) := by decide +kernel
theorem d_Village_sendCorrection_34 : decode b_Village_sendCorrection 34 = .ok (.iload_n 2, 1) := by decide +kernel
theorem d_Village_sendCorrection_35 : decode b_Village_sendCorrection 35 = .ok (.invokevirtual 134, 3) := by decide +kernel
theorem d_Village_sendCorrection_38 : decode b_Village_sendCorrection 38 = .ok (.iload 5, 2) := by decide +kernel
theorem d_Village_sendCorrection_40 : decode b_Village_sendCorrection 40 = .ok (.invokestatic 138, 3) := by decide +kernel
theorem d_Village_sendCorrection_43 : decode b_Village_sendCorrection 43 = .ok (.ifCond .ne 20, 3) := by decide +kernel
theorem d_Village_sendCorrection_46 : decode b_Village_sendCorrection 46 = .ok (.aload_n 0, 1) := by decide +kernel
theorem d_Village_sendCorrection_47 : decode b_Village_sendCorrection 47 = .ok (.iload 5, 2) := by decide +kernel
theorem d_Village_sendCorrection_49 : decode b_Village_sendCorrection 49 = .ok (.iload_n 2, 1) := by decide +kernel
theorem d_Village_sendCorrection_50 : decode b_Village_sendCorrection 50 = .ok (.invokevirtual 128, 3) := by decide +kernel
theorem d_Village_sendCorrection_53 : decode b_Village_sendCorrection 53 = .ok (.iload 4, 2) := by decide +kernel
theorem d_Village_sendCorrection_55 : decode b_Village_sendCorrection 55 = .ok (.iload 5, 2) := by decide +kernel
theorem d_Village_sendCorrection_57 : decode b_Village_sendCorrection 57 = .ok (.invokestatic 154, 3) := by decide +kernel
theorem d_Village_sendCorrection_60 : decode b_Village_sendCorrection 60 = .ok (.ior, 1) := by decide +kernel
theorem d_Village_sendCorrection_61 : decode b_Village_sendCorrection 61 = .ok (.istore 4, 2) := by decide +kernel
theorem d_Village_sendCorrection_63 : decode b_Village_sendCorrection 63 = .ok (.iinc 5 1, 3) := by decide +kernel
theorem d_Village_sendCorrection_66 : decode b_Village_sendCorrection 66 = .ok (.goto (-60), 3) := by decide +kernel
theorem d_Village_sendCorrection_69 : decode b_Village_sendCorrection 69 = .ok (.aload_n 0, 1) := by decide +kernel
theorem d_Village_sendCorrection_70 : decode b_Village_sendCorrection 70 = .ok (.getfield 54, 3) := by decide +kernel
theorem d_Village_sendCorrection_73 : decode b_Village_sendCorrection 73 = .ok (.iload_n 1, 1) := by decide +kernel
theorem d_Village_sendCorrection_74 : decode b_Village_sendCorrection 74 = .ok (.iload_n 2, 1) := by decide +kernel
theorem d_Village_sendCorrection_75 : decode b_Village_sendCorrection 75 = .ok (.aload_n 0, 1) := by decide +kernel
theorem d_Village_sendCorrection_76 : decode b_Village_sendCorrection 76 = .ok (.getfield 15, 3) := by decide +kernel
theorem d_Village_sendCorrection_79 : decode b_Village_sendCorrection 79 = .ok (.iconst 1, 1) := by decide +kernel
theorem d_Village_sendCorrection_80 : decode b_Village_sendCorrection 80 = .ok (.iadd, 1) := by decide +kernel
theorem d_Village_sendCorrection_81 : decode b_Village_sendCorrection 81 = .ok (.invokevirtual 116, 3) := by decide +kernel
theorem d_Village_sendCorrection_84 : decode b_Village_sendCorrection 84 = .ok (.aload_n 0, 1) := by decide +kernel
theorem d_Village_sendCorrection_85 : decode b_Village_sendCorrection 85 = .ok (.iload_n 2, 1) := by decide +kernel
theorem d_Village_sendCorrection_86 : decode b_Village_sendCorrection 86 = .ok (.invokevirtual 250, 3) := by decide +kernel
theorem d_Village_sendCorrection_89 : decode b_Village_sendCorrection 89 = .ok (.aload_n 0, 1) := by decide +kernel
theorem d_Village_sendCorrection_90 : decode b_Village_sendCorrection 90 = .ok (.getfield 69, 3) := by decide +kernel
theorem d_Village_sendCorrection_93 : decode b_Village_sendCorrection 93 = .ok (.aload_n 0, 1) := by decide +kernel
theorem d_Village_sendCorrection_94 : decode b_Village_sendCorrection 94 = .ok (.getfield 15, 3) := by decide +kernel
theorem d_Village_sendCorrection_97 : decode b_Village_sendCorrection 97 = .ok (.iload_n 1, 1) := by decide +kernel
theorem d_Village_sendCorrection_98 : decode b_Village_sendCorrection 98 = .ok (.iconst 1, 1) := by decide +kernel
theorem d_Village_sendCorrection_99 : decode b_Village_sendCorrection 99 = .ok (.iload_n 2, 1) := by decide +kernel
theorem d_Village_sendCorrection_100 : decode b_Village_sendCorrection 100 = .ok (.iload_n 3, 1) := by decide +kernel
theorem d_Village_sendCorrection_101 : decode b_Village_sendCorrection 101 = .ok (.iload 4, 2) := by decide +kernel
theorem d_Village_sendCorrection_103 : decode b_Village_sendCorrection 103 = .ok (.invokevirtual 233, 3) := by decide +kernel
theorem d_Village_sendCorrection_106 : decode b_Village_sendCorrection 106 = .ok (.return_, 1) := by decide +kernel
def L_Village_sendCorrection (v : Nat) : Nat → Nat → Int32 → Int32 → Int32 → Int32 → Int32 → zSt → Option (zSt)
  | 0, _, _, _, _, _, _, _ => none
  | n + 1, 0, x1, x2, x3, x4, x5, σ => if (σ.1 v 3 0) ≤ x5 then ((F_Entries_put v 48 x1 x2 ((σ.1 v 0 1) + (1 : Int32)) σ).bind fun σ2 => (F_Village_dropSettledEntries v x2 σ2).bind fun σ4 => (F_Journal_add v (σ4.1 v 0 1) x1 (1 : Int32) x2 x3 x4 σ4).bind fun σ6 => some σ6) else ((F_Waves_contains x3 x5 σ).bind fun r8 => if r8 = 0 then L_Village_sendCorrection v n 0 x1 x2 x3 x4 (x5 + (1 : Int32)) σ else ((F_Row_get v 39 x2 σ).bind fun r10 => (F_Waves_contains r10 x5 σ).bind fun r12 => if r12 = 0 then ((F_Village_learnCorrection v x5 x2 σ).bind fun σ14 => (F_Waves_bit x5 σ14).bind fun r16 => L_Village_sendCorrection v n 0 x1 x2 x3 (x4 ||| r16) (x5 + (1 : Int32)) σ14) else L_Village_sendCorrection v n 0 x1 x2 x3 x4 (x5 + (1 : Int32)) σ))
  | _ + 1, _, _, _, _, _, _, _ => none
theorem e_Village_sendCorrection_0 (v : Nat) (n : Nat) (x1 : Int32) (x2 : Int32) (x3 : Int32) (x4 : Int32) (x5 : Int32) (σ : zSt) : L_Village_sendCorrection v (n + 1) 0 x1 x2 x3 x4 x5 σ = (if (σ.1 v 3 0) ≤ x5 then ((F_Entries_put v 48 x1 x2 ((σ.1 v 0 1) + (1 : Int32)) σ).bind fun σ2 => (F_Village_dropSettledEntries v x2 σ2).bind fun σ4 => (F_Journal_add v (σ4.1 v 0 1) x1 (1 : Int32) x2 x3 x4 σ4).bind fun σ6 => some σ6) else ((F_Waves_contains x3 x5 σ).bind fun r8 => if r8 = 0 then L_Village_sendCorrection v n 0 x1 x2 x3 x4 (x5 + (1 : Int32)) σ else ((F_Row_get v 39 x2 σ).bind fun r10 => (F_Waves_contains r10 x5 σ).bind fun r12 => if r12 = 0 then ((F_Village_learnCorrection v x5 x2 σ).bind fun σ14 => (F_Waves_bit x5 σ14).bind fun r16 => L_Village_sendCorrection v n 0 x1 x2 x3 (x4 ||| r16) (x5 + (1 : Int32)) σ14) else L_Village_sendCorrection v n 0 x1 x2 x3 x4 (x5 + (1 : Int32)) σ))) := rfl
set_option maxHeartbeats 4000000 in
set_option maxRecDepth 100000 in
theorem w_Village_sendCorrection {l : Launch} {G : zLA} {p : Program} {e : Env} {s : State} {m : MethodId} {args : Array Value} {below : List Frame} {meth : Method} {c : Code} (C : zCx G p s m args meth c "VillageWaves$Village" b_Village_sendCorrection 6 none) {v : Nat} (hv : zvl G v) {σ' : zSt} : ∀ n : Nat, (∀ (x1 : Int32) (x2 : Int32) (x3 : Int32) (x4 : Int32) (x5 : Int32) (σ : zSt), L_Village_sendCorrection v n 0 x1 x2 x3 x4 x5 σ = some σ' → zWV G p l e rm_Village_sendCorrection s m args below meth c 6 0 0 (zQ G below args s rm_Village_sendCorrection none σ') 6 [(0, .ref (zad G v 0)), (1, .int x1), (2, .int x2), (3, .int x3), (4, .int x4), (5, .int x5)] [] σ) := by
  intro n
  induction n with
  | zero => exact fun _ _ _ _ _ _ hf => (by cases hf)
  | succ n ih =>
    refine ?_
    · intro x1 x2 x3 x4 x5 σ hf
      rw [e_Village_sendCorrection_0] at hf
      refine z_iload C d_Village_sendCorrection_6 5 rfl ?_
      refine z_aload_n C d_Village_sendCorrection_8 0 rfl rfl ?_
      refine gf_Village_36 C (zlv hv 0 rfl) rfl rfl d_Village_sendCorrection_9 ?_
      refine gf_Village_190 C (zlv hv 3 rfl) rfl rfl d_Village_sendCorrection_12 ?_
      refine z_icmp_ge (tgt := 69) C d_Village_sendCorrection_15 rfl (fun h19 => ?_) (fun h19 => ?_)
      · have hf := iff_t hf h19
        refine z_aload_n C d_Village_sendCorrection_69 0 rfl rfl ?_
        refine gf_Village_54 C (zlv hv 0 rfl) rfl rfl d_Village_sendCorrection_70 ?_
        refine z_iload_n C d_Village_sendCorrection_73 1 rfl rfl ?_
        refine z_iload_n C d_Village_sendCorrection_74 2 rfl rfl ?_
        refine z_aload_n C d_Village_sendCorrection_75 0 rfl rfl ?_
        refine gf_Village_15 C (zlv hv 0 rfl) rfl rfl d_Village_sendCorrection_76 ?_
        refine z_iconst C d_Village_sendCorrection_79 zki_1 ?_
        refine z_iadd C d_Village_sendCorrection_80 ?_
        obtain ⟨σ2, h1, hf⟩ := bd_s hf
        refine z_cVv C kl_Village_116 rfl (c_Entries_put hv (Or.inr rfl) h1) (zlv hv 48 rfl) rfl rfl rfl (Nat.le_of_ble_eq_true rfl) ⟨(Nat.le_of_ble_eq_true rfl), (Nat.le_of_ble_eq_true rfl)⟩ ⟨(Nat.le_of_ble_eq_true rfl), (Nat.le_of_ble_eq_true rfl)⟩ d_Village_sendCorrection_81 ?_
        refine z_aload_n C d_Village_sendCorrection_84 0 rfl rfl ?_
        refine z_iload_n C d_Village_sendCorrection_85 2 rfl rfl ?_
        obtain ⟨σ4, h3, hf⟩ := bd_s hf
        refine z_cVv C kl_Village_250 rfl (c_Village_dropSettledEntries hv h3) (zlv hv 0 rfl) rfl rfl rfl (Nat.le_of_ble_eq_true rfl) ⟨(Nat.le_of_ble_eq_true rfl), (Nat.le_of_ble_eq_true rfl)⟩ ⟨(Nat.le_of_ble_eq_true rfl), (Nat.le_of_ble_eq_true rfl)⟩ d_Village_sendCorrection_86 ?_
        refine z_aload_n C d_Village_sendCorrection_89 0 rfl rfl ?_
        refine gf_Village_69 C (zlv hv 0 rfl) rfl rfl d_Village_sendCorrection_90 ?_
        refine z_aload_n C d_Village_sendCorrection_93 0 rfl rfl ?_
        refine gf_Village_15 C (zlv hv 0 rfl) rfl rfl d_Village_sendCorrection_94 ?_
        refine z_iload_n C d_Village_sendCorrection_97 1 rfl rfl ?_
        refine z_iconst C d_Village_sendCorrection_98 zki_1 ?_
        refine z_iload_n C d_Village_sendCorrection_99 2 rfl rfl ?_
        refine z_iload_n C d_Village_sendCorrection_100 3 rfl rfl ?_
        refine z_iload C d_Village_sendCorrection_101 4 rfl ?_
        obtain ⟨σ6, h5, hf⟩ := bd_s hf
        refine z_cVv C kl_Village_233 rfl (c_Journal_add hv h5) (zlv hv 59 rfl) rfl rfl rfl (Nat.le_of_ble_eq_true rfl) ⟨(Nat.le_of_ble_eq_true rfl), (Nat.le_of_ble_eq_true rfl)⟩ ⟨(Nat.le_of_ble_eq_true rfl), (Nat.le_of_ble_eq_true rfl)⟩ d_Village_sendCorrection_103 ?_
        cases hf
        exact z_vret C rfl (Nat.le_of_ble_eq_true rfl) (Nat.le_of_ble_eq_true rfl) d_Village_sendCorrection_106
      · have hf := iff_f hf h19
        refine z_iload_n C d_Village_sendCorrection_18 3 rfl rfl ?_
        refine z_iload C d_Village_sendCorrection_19 5 rfl ?_
        obtain ⟨r8, h7, hf⟩ := bd_s hf
        refine z_cSNi C kl_Village_138 (c_Waves_contains h7) rfl rfl (Nat.le_of_ble_eq_true rfl) ⟨(Nat.le_of_ble_eq_true rfl), (Nat.le_of_ble_eq_true rfl)⟩ ⟨(Nat.le_of_ble_eq_true rfl), (Nat.le_of_ble_eq_true rfl)⟩ d_Village_sendCorrection_21 ?_
        refine z_if_eq (tgt := 63) C d_Village_sendCorrection_24 rfl (fun h18 => ?_) (fun h18 => ?_)
        · have hf := iff_t hf h18
          refine z_iinc C d_Village_sendCorrection_63 5 rfl zki_1 (by decide) ?_
          refine z_goto (tgt := 6) C d_Village_sendCorrection_66 rfl ?_
          exact z_sub [1, 2, 3, 4, 5, 0] rfl (ih _ _ _ _ _ _ hf)
        · have hf := iff_f hf h18
          refine z_aload_n C d_Village_sendCorrection_27 0 rfl rfl ?_
          refine gf_Village_43 C (zlv hv 0 rfl) rfl rfl d_Village_sendCorrection_28 ?_
          refine gf_Village_131 C (zlv hv 24 rfl) rfl rfl d_Village_sendCorrection_31 ?_
          refine z_iload_n C d_Village_sendCorrection_34 2 rfl rfl ?_
          obtain ⟨r10, h9, hf⟩ := bd_s hf
          refine z_cVi C kl_Village_134 rfl (c_Row_get (zrow_v hv 39 rfl) h9) (zlv hv 39 rfl) rfl rfl rfl (Nat.le_of_ble_eq_true rfl) ⟨(Nat.le_of_ble_eq_true rfl), (Nat.le_of_ble_eq_true rfl)⟩ ⟨(Nat.le_of_ble_eq_true rfl), (Nat.le_of_ble_eq_true rfl)⟩ d_Village_sendCorrection_35 ?_
          refine z_iload C d_Village_sendCorrection_38 5 rfl ?_
          obtain ⟨r12, h11, hf⟩ := bd_s hf
          refine z_cSNi C kl_Village_138 (c_Waves_contains h11) rfl rfl (Nat.le_of_ble_eq_true rfl) ⟨(Nat.le_of_ble_eq_true rfl), (Nat.le_of_ble_eq_true rfl)⟩ ⟨(Nat.le_of_ble_eq_true rfl), (Nat.le_of_ble_eq_true rfl)⟩ d_Village_sendCorrection_40 ?_
          refine z_if_ne (tgt := 63) C d_Village_sendCorrection_43 rfl (fun h17 => ?_) (fun h17 => ?_)
          · have hf := iff_f hf h17
            refine z_iinc C d_Village_sendCorrection_63 5 rfl zki_1 (by decide) ?_
            refine z_goto (tgt := 6) C d_Village_sendCorrection_66 rfl ?_
            exact z_sub [1, 2, 3, 4, 5, 0] rfl (ih _ _ _ _ _ _ hf)
          · have hf := iff_t hf h17
            refine z_aload_n C d_Village_sendCorrection_46 0 rfl rfl ?_
            refine z_iload C d_Village_sendCorrection_47 5 rfl ?_
            refine z_iload_n C d_Village_sendCorrection_49 2 rfl rfl ?_
            obtain ⟨σ14, h13, hf⟩ := bd_s hf
            refine z_cVv C kl_Village_128 rfl (c_Village_learnCorrection hv h13) (zlv hv 0 rfl) rfl rfl rfl (Nat.le_of_ble_eq_true rfl) ⟨(Nat.le_of_ble_eq_true rfl), (Nat.le_of_ble_eq_true rfl)⟩ ⟨(Nat.le_of_ble_eq_true rfl), (Nat.le_of_ble_eq_true rfl)⟩ d_Village_sendCorrection_50 ?_
            refine z_iload C d_Village_sendCorrection_53 4 rfl ?_
            refine z_iload C d_Village_sendCorrection_55 5 rfl ?_
            obtain ⟨r16, h15, hf⟩ := bd_s hf
            refine z_cSNi C kl_Village_154 (c_Waves_bit h15) rfl rfl (Nat.le_of_ble_eq_true rfl) ⟨(Nat.le_of_ble_eq_true rfl), (Nat.le_of_ble_eq_true rfl)⟩ ⟨(Nat.le_of_ble_eq_true rfl), (Nat.le_of_ble_eq_true rfl)⟩ d_Village_sendCorrection_57 ?_
            refine z_ior C d_Village_sendCorrection_60 ?_
            refine z_istore C d_Village_sendCorrection_61 (by decide) ?_
            refine z_iinc C d_Village_sendCorrection_63 5 rfl zki_1 (by decide) ?_
            refine z_goto (tgt := 6) C d_Village_sendCorrection_66 rfl ?_
            exact z_sub [2, 3, 4, 5, 1, 0] rfl (ih _ _ _ _ _ _ hf)
def F_Village_sendCorrection (v : Nat) (a0 : Int32) (a1 : Int32) (a2 : Int32) (σ : zSt) : Option (zSt) :=
  L_Village_sendCorrection v zK 0 a0 a1 a2 (0 : Int32) (0 : Int32) σ
set_option maxHeartbeats 4000000 in
set_option maxRecDepth 100000 in
theorem c_Village_sendCorrection {l : Launch} {G : zLA} {v : Nat} (hv : zvl G v) {a0 : Int32} {a1 : Int32} {a2 : Int32} {σ : zSt} {σ' : zSt} (hf : F_Village_sendCorrection v a0 a1 a2 σ = some σ') : zM l G y_Village_sendCorrection (zws y_Village_sendCorrection b_Village_sendCorrection 6 none) rm_Village_sendCorrection [.ref (zad G v 0), .int a0, .int a1, .int a2] σ none σ' := by
  refine z_ofM (own := "VillageWaves$Village") (lv := [(0, .ref (zad G v 0)), (1, .int a0), (2, .int a1), (3, .int a2)]) (by decide +kernel) rfl rfl (Nat.le_of_ble_eq_true rfl) (fun p e s m args below meth c C => ?_)
  rw [F_Village_sendCorrection] at hf
  refine z_iconst C d_Village_sendCorrection_0 zki_0 ?_
  refine z_istore C d_Village_sendCorrection_1 (by decide) ?_
  refine z_iconst C d_Village_sendCorrection_3 zki_0 ?_
  refine z_istore C d_Village_sendCorrection_4 (by decide) ?_
  exact z_sub [2, 3, 4, 5, 1, 0] rfl ((w_Village_sendCorrection C hv zK) _ _ _ _ _ _ hf)
abbrev rm_Village_getNews : Room := { frames := 2, cells := 0, slots := 0, locals := 45 }
theorem d_Village_getNews_0 : decode b_Village_getNews 0 = .ok (.aload_n 0, 1) := by decide +kernel
theorem d_Village_getNews_1 : decode b_Village_getNews 1 = .ok (.getfield 43, 3) := by decide +kernel
theorem d_Village_getNews_4 : decode b_Village_getNews 4 = .ok (.getfield 236, 3) := by decide +kernel
theorem d_Village_getNews_7 : decode b_Village_getNews 7 = .ok (.iload_n 2, 1) := by decide +kernel
theorem d_Village_getNews_8 : decode b_Village_getNews 8 = .ok (.iload_n 1, 1) := by decide +kernel
theorem d_Village_getNews_9 : decode b_Village_getNews 9 = .ok (.invokevirtual 239, 3) := by decide +kernel
theorem d_Village_getNews_12 : decode b_Village_getNews 12 = .ok (.aload_n 0, 1) := by decide +kernel
theorem d_Village_getNews_13 : decode b_Village_getNews 13 = .ok (.getfield 43, 3) := by decide +kernel
theorem d_Village_getNews_16 : decode b_Village_getNews 16 = .ok (.getfield 242, 3) := by decide +kernel
theorem d_Village_getNews_19 : decode b_Village_getNews 19 = .ok (.iload_n 2, 1) := by decide +kernel
theorem d_Village_getNews_20 : decode b_Village_getNews 20 = .ok (.aload_n 0, 1) := by decide +kernel
theorem d_Village_getNews_21 : decode b_Village_getNews 21 = .ok (.getfield 43, 3) := by decide +kernel
theorem d_Village_getNews_24 : decode b_Village_getNews 24 = .ok (.getfield 242, 3) := by decide +kernel
theorem d_Village_getNews_27 : decode b_Village_getNews 27 = .ok (.iload_n 2, 1) := by decide +kernel
theorem d_Village_getNews_28 : decode b_Village_getNews 28 = .ok (.invokevirtual 134, 3) := by decide +kernel
theorem d_Village_getNews_31 : decode b_Village_getNews 31 = .ok (.iload 4, 2) := by decide +kernel
theorem d_Village_getNews_33 : decode b_Village_getNews 33 = .ok (.invokestatic 245, 3) := by decide +kernel
theorem d_Village_getNews_36 : decode b_Village_getNews 36 = .ok (.invokevirtual 84, 3) := by decide +kernel
theorem d_Village_getNews_39 : decode b_Village_getNews 39 = .ok (.aload_n 0, 1) := by decide +kernel
theorem d_Village_getNews_40 : decode b_Village_getNews 40 = .ok (.getfield 60, 3) := by decide +kernel
theorem d_Village_getNews_43 : decode b_Village_getNews 43 = .ok (.iload_n 1, 1) := by decide +kernel
theorem d_Village_getNews_44 : decode b_Village_getNews 44 = .ok (.iload_n 2, 1) := by decide +kernel
theorem d_Village_getNews_45 : decode b_Village_getNews 45 = .ok (.invokestatic 112, 3) := by decide +kernel
theorem d_Village_getNews_48 : decode b_Village_getNews 48 = .ok (.iload_n 3, 1) := by decide +kernel
theorem d_Village_getNews_49 : decode b_Village_getNews 49 = .ok (.invokevirtual 84, 3) := by decide +kernel
theorem d_Village_getNews_52 : decode b_Village_getNews 52 = .ok (.aload_n 0, 1) := by decide +kernel
theorem d_Village_getNews_53 : decode b_Village_getNews 53 = .ok (.getfield 63, 3) := by decide +kernel
theorem d_Village_getNews_56 : decode b_Village_getNews 56 = .ok (.iload_n 1, 1) := by decide +kernel
theorem d_Village_getNews_57 : decode b_Village_getNews 57 = .ok (.iload_n 2, 1) := by decide +kernel
theorem d_Village_getNews_58 : decode b_Village_getNews 58 = .ok (.invokestatic 112, 3) := by decide +kernel
theorem d_Village_getNews_61 : decode b_Village_getNews 61 = .ok (.iload_n 3, 1) := by decide +kernel
theorem d_Village_getNews_62 : decode b_Village_getNews 62 = .ok (.invokevirtual 239, 3) := by decide +kernel
theorem d_Village_getNews_65 : decode b_Village_getNews 65 = .ok (.aload_n 0, 1) := by decide +kernel
theorem d_Village_getNews_66 : decode b_Village_getNews 66 = .ok (.getfield 63, 3) := by decide +kernel
theorem d_Village_getNews_69 : decode b_Village_getNews 69 = .ok (.iload_n 3, 1) := by decide +kernel
theorem d_Village_getNews_70 : decode b_Village_getNews 70 = .ok (.iload_n 2, 1) := by decide +kernel
theorem d_Village_getNews_71 : decode b_Village_getNews 71 = .ok (.invokestatic 112, 3) := by decide +kernel
theorem d_Village_getNews_74 : decode b_Village_getNews 74 = .ok (.iload_n 1, 1) := by decide +kernel
theorem d_Village_getNews_75 : decode b_Village_getNews 75 = .ok (.invokevirtual 239, 3) := by decide +kernel
theorem d_Village_getNews_78 : decode b_Village_getNews 78 = .ok (.iload 4, 2) := by decide +kernel
theorem d_Village_getNews_80 : decode b_Village_getNews 80 = .ok (.aload_n 0, 1) := by decide +kernel
theorem d_Village_getNews_81 : decode b_Village_getNews 81 = .ok (.getfield 29, 3) := by decide +kernel
theorem d_Village_getNews_84 : decode b_Village_getNews 84 = .ok (.iconst 4, 1) := by decide +kernel
theorem d_Village_getNews_85 : decode b_Village_getNews 85 = .ok (.invokevirtual 134, 3) := by decide +kernel
theorem d_Village_getNews_88 : decode b_Village_getNews 88 = .ok (.if_icmp .gt 30, 3) := by decide +kernel
theorem d_Village_getNews_91 : decode b_Village_getNews 91 = .ok (.aload_n 0, 1) := by decide +kernel
theorem d_Village_getNews_92 : decode b_Village_getNews 92 = .ok (.getfield 50, 3) := by decide +kernel
theorem d_Village_getNews_95 : decode b_Village_getNews 95 = .ok (.iload_n 1, 1) := by decide +kernel
theorem d_Village_getNews_96 : decode b_Village_getNews 96 = .ok (.iload_n 2, 1) := by decide +kernel
theorem d_Village_getNews_97 : decode b_Village_getNews 97 = .ok (.aload_n 0, 1) := by decide +kernel
theorem d_Village_getNews_98 : decode b_Village_getNews 98 = .ok (.getfield 15, 3) := by decide +kernel
theorem d_Village_getNews_101 : decode b_Village_getNews 101 = .ok (.invokevirtual 116, 3) := by decide +kernel
theorem d_Village_getNews_104 : decode b_Village_getNews 104 = .ok (.aload_n 0, 1) := by decide +kernel
theorem d_Village_getNews_105 : decode b_Village_getNews 105 = .ok (.getfield 57, 3) := by decide +kernel
theorem d_Village_getNews_108 : decode b_Village_getNews 108 = .ok (.iload_n 1, 1) := by decide +kernel
theorem d_Village_getNews_109 : decode b_Village_getNews 109 = .ok (.iload_n 2, 1) := by decide +kernel
theorem d_Village_getNews_110 : decode b_Village_getNews 110 = .ok (.invokestatic 112, 3) := by decide +kernel
theorem d_Village_getNews_113 : decode b_Village_getNews 113 = .ok (.iload 4, 2) := by decide +kernel
theorem d_Village_getNews_115 : decode b_Village_getNews 115 = .ok (.invokevirtual 84, 3) := by decide +kernel
theorem d_Village_getNews_118 : decode b_Village_getNews 118 = .ok (.return_, 1) := by decide +kernel
def F_Village_getNews (v : Nat) (a0 : Int32) (a1 : Int32) (a2 : Int32) (a3 : Int32) (σ : zSt) : Option (zSt) :=
  (F_Row_join v 37 a1 a0 σ).bind fun σ2 => (F_Row_get v 41 a1 σ2).bind fun r4 => (F_Row_put v 41 a1 (if r4 < a3 then a3 else r4) σ2).bind fun σ6 => (F_Waves_cell a0 a1 σ6).bind fun r8 => (F_Row_put v 55 r8 a2 σ6).bind fun σ10 => (F_Waves_cell a0 a1 σ10).bind fun r12 => (F_Row_join v 57 r12 a2 σ10).bind fun σ14 => (F_Waves_cell a2 a1 σ14).bind fun r16 => (F_Row_join v 57 r16 a0 σ14).bind fun σ18 => (F_Row_get v 1 (4 : Int32) σ18).bind fun r20 => if r20 < a3 then some σ18 else ((F_Entries_put v 43 a0 a1 (σ18.1 v 0 1) σ18).bind fun σ22 => (F_Waves_cell a0 a1 σ22).bind fun r24 => (F_Row_put v 53 r24 a3 σ22).bind fun σ26 => some σ26)
set_option maxHeartbeats 4000000 in
set_option maxRecDepth 100000 in
theorem c_Village_getNews {l : Launch} {G : zLA} {v : Nat} (hv : zvl G v) {a0 : Int32} {a1 : Int32} {a2 : Int32} {a3 : Int32} {σ : zSt} {σ' : zSt} (hf : F_Village_getNews v a0 a1 a2 a3 σ = some σ') : zM l G y_Village_getNews (zws y_Village_getNews b_Village_getNews 5 none) rm_Village_getNews [.ref (zad G v 0), .int a0, .int a1, .int a2, .int a3] σ none σ' := by
  refine z_ofM (own := "VillageWaves$Village") (lv := [(0, .ref (zad G v 0)), (1, .int a0), (2, .int a1), (3, .int a2), (4, .int a3)]) (by decide +kernel) rfl rfl (Nat.le_of_ble_eq_true rfl) (fun p e s m args below meth c C => ?_)
  rw [F_Village_getNews] at hf
  refine z_aload_n C d_Village_getNews_0 0 rfl rfl ?_
  refine gf_Village_43 C (zlv hv 0 rfl) rfl rfl d_Village_getNews_1 ?_
  refine gf_Village_236 C (zlv hv 24 rfl) rfl rfl d_Village_getNews_4 ?_
  refine z_iload_n C d_Village_getNews_7 2 rfl rfl ?_
  refine z_iload_n C d_Village_getNews_8 1 rfl rfl ?_
  obtain ⟨σ2, h1, hf⟩ := bd_s hf
  refine z_cVv C kl_Village_239 rfl (c_Row_join (zrow_v hv 37 rfl) h1) (zlv hv 37 rfl) rfl rfl rfl (Nat.le_of_ble_eq_true rfl) ⟨(Nat.le_of_ble_eq_true rfl), (Nat.le_of_ble_eq_true rfl)⟩ ⟨(Nat.le_of_ble_eq_true rfl), (Nat.le_of_ble_eq_true rfl)⟩ d_Village_getNews_9 ?_
  refine z_aload_n C d_Village_getNews_12 0 rfl rfl ?_
  refine gf_Village_43 C (zlv hv 0 rfl) rfl rfl d_Village_getNews_13 ?_
  refine gf_Village_242 C (zlv hv 24 rfl) rfl rfl d_Village_getNews_16 ?_
  refine z_iload_n C d_Village_getNews_19 2 rfl rfl ?_
  refine z_aload_n C d_Village_getNews_20 0 rfl rfl ?_
  refine gf_Village_43 C (zlv hv 0 rfl) rfl rfl d_Village_getNews_21 ?_
  refine gf_Village_242 C (zlv hv 24 rfl) rfl rfl d_Village_getNews_24 ?_
  refine z_iload_n C d_Village_getNews_27 2 rfl rfl ?_
  obtain ⟨r4, h3, hf⟩ := bd_s hf
  refine z_cVi C kl_Village_134 rfl (c_Row_get (zrow_v hv 41 rfl) h3) (zlv hv 41 rfl) rfl rfl rfl (Nat.le_of_ble_eq_true rfl) ⟨(Nat.le_of_ble_eq_true rfl), (Nat.le_of_ble_eq_true rfl)⟩ ⟨(Nat.le_of_ble_eq_true rfl), (Nat.le_of_ble_eq_true rfl)⟩ d_Village_getNews_28 ?_
  refine z_iload C d_Village_getNews_31 4 rfl ?_
  refine z_mmax C zq900 rfl (Nat.le_of_ble_eq_true rfl) (Nat.le_of_ble_eq_true rfl) (Nat.le_of_ble_eq_true rfl) (Nat.le_of_ble_eq_true rfl) (Nat.le_of_ble_eq_true rfl) d_Village_getNews_33 ?_
  obtain ⟨σ6, h5, hf⟩ := bd_s hf
  refine z_cVv C kl_Village_84 rfl (c_Row_put (zrow_v hv 41 rfl) h5) (zlv hv 41 rfl) rfl rfl rfl (Nat.le_of_ble_eq_true rfl) ⟨(Nat.le_of_ble_eq_true rfl), (Nat.le_of_ble_eq_true rfl)⟩ ⟨(Nat.le_of_ble_eq_true rfl), (Nat.le_of_ble_eq_true rfl)⟩ d_Village_getNews_36 ?_
  refine z_aload_n C d_Village_getNews_39 0 rfl rfl ?_
  refine gf_Village_60 C (zlv hv 0 rfl) rfl rfl d_Village_getNews_40 ?_
  refine z_iload_n C d_Village_getNews_43 1 rfl rfl ?_
  refine z_iload_n C d_Village_getNews_44 2 rfl rfl ?_
  obtain ⟨r8, h7, hf⟩ := bd_s hf
  refine z_cSNi C kl_Village_112 (c_Waves_cell h7) rfl rfl (Nat.le_of_ble_eq_true rfl) ⟨(Nat.le_of_ble_eq_true rfl), (Nat.le_of_ble_eq_true rfl)⟩ ⟨(Nat.le_of_ble_eq_true rfl), (Nat.le_of_ble_eq_true rfl)⟩ d_Village_getNews_45 ?_
  refine z_iload_n C d_Village_getNews_48 3 rfl rfl ?_
  obtain ⟨σ10, h9, hf⟩ := bd_s hf
  refine z_cVv C kl_Village_84 rfl (c_Row_put (zrow_v hv 55 rfl) h9) (zlv hv 55 rfl) rfl rfl rfl (Nat.le_of_ble_eq_true rfl) ⟨(Nat.le_of_ble_eq_true rfl), (Nat.le_of_ble_eq_true rfl)⟩ ⟨(Nat.le_of_ble_eq_true rfl), (Nat.le_of_ble_eq_true rfl)⟩ d_Village_getNews_49 ?_
  refine z_aload_n C d_Village_getNews_52 0 rfl rfl ?_
  refine gf_Village_63 C (zlv hv 0 rfl) rfl rfl d_Village_getNews_53 ?_
  refine z_iload_n C d_Village_getNews_56 1 rfl rfl ?_
  refine z_iload_n C d_Village_getNews_57 2 rfl rfl ?_
  obtain ⟨r12, h11, hf⟩ := bd_s hf
  refine z_cSNi C kl_Village_112 (c_Waves_cell h11) rfl rfl (Nat.le_of_ble_eq_true rfl) ⟨(Nat.le_of_ble_eq_true rfl), (Nat.le_of_ble_eq_true rfl)⟩ ⟨(Nat.le_of_ble_eq_true rfl), (Nat.le_of_ble_eq_true rfl)⟩ d_Village_getNews_58 ?_
  refine z_iload_n C d_Village_getNews_61 3 rfl rfl ?_
  obtain ⟨σ14, h13, hf⟩ := bd_s hf
  refine z_cVv C kl_Village_239 rfl (c_Row_join (zrow_v hv 57 rfl) h13) (zlv hv 57 rfl) rfl rfl rfl (Nat.le_of_ble_eq_true rfl) ⟨(Nat.le_of_ble_eq_true rfl), (Nat.le_of_ble_eq_true rfl)⟩ ⟨(Nat.le_of_ble_eq_true rfl), (Nat.le_of_ble_eq_true rfl)⟩ d_Village_getNews_62 ?_
  refine z_aload_n C d_Village_getNews_65 0 rfl rfl ?_
  refine gf_Village_63 C (zlv hv 0 rfl) rfl rfl d_Village_getNews_66 ?_
  refine z_iload_n C d_Village_getNews_69 3 rfl rfl ?_
  refine z_iload_n C d_Village_getNews_70 2 rfl rfl ?_
  obtain ⟨r16, h15, hf⟩ := bd_s hf
  refine z_cSNi C kl_Village_112 (c_Waves_cell h15) rfl rfl (Nat.le_of_ble_eq_true rfl) ⟨(Nat.le_of_ble_eq_true rfl), (Nat.le_of_ble_eq_true rfl)⟩ ⟨(Nat.le_of_ble_eq_true rfl), (Nat.le_of_ble_eq_true rfl)⟩ d_Village_getNews_71 ?_
  refine z_iload_n C d_Village_getNews_74 1 rfl rfl ?_
  obtain ⟨σ18, h17, hf⟩ := bd_s hf
  refine z_cVv C kl_Village_239 rfl (c_Row_join (zrow_v hv 57 rfl) h17) (zlv hv 57 rfl) rfl rfl rfl (Nat.le_of_ble_eq_true rfl) ⟨(Nat.le_of_ble_eq_true rfl), (Nat.le_of_ble_eq_true rfl)⟩ ⟨(Nat.le_of_ble_eq_true rfl), (Nat.le_of_ble_eq_true rfl)⟩ d_Village_getNews_75 ?_
  refine z_iload C d_Village_getNews_78 4 rfl ?_
  refine z_aload_n C d_Village_getNews_80 0 rfl rfl ?_
  refine gf_Village_29 C (zlv hv 0 rfl) rfl rfl d_Village_getNews_81 ?_
  refine z_iconst C d_Village_getNews_84 zki_4 ?_
  obtain ⟨r20, h19, hf⟩ := bd_s hf
  refine z_cVi C kl_Village_134 rfl (c_Row_get (zrow_v hv 1 rfl) h19) (zlv hv 1 rfl) rfl rfl rfl (Nat.le_of_ble_eq_true rfl) ⟨(Nat.le_of_ble_eq_true rfl), (Nat.le_of_ble_eq_true rfl)⟩ ⟨(Nat.le_of_ble_eq_true rfl), (Nat.le_of_ble_eq_true rfl)⟩ d_Village_getNews_85 ?_
  refine z_icmp_gt (tgt := 118) C d_Village_getNews_88 rfl (fun h27 => ?_) (fun h27 => ?_)
  · have hf := iff_t hf h27
    cases hf
    exact z_vret C rfl (Nat.le_of_ble_eq_true rfl) (Nat.le_of_ble_eq_true rfl) d_Village_getNews_118
  · have hf := iff_f hf h27
    refine z_aload_n C d_Village_getNews_91 0 rfl rfl ?_
    refine gf_Village_50 C (zlv hv 0 rfl) rfl rfl d_Village_getNews_92 ?_
    refine z_iload_n C d_Village_getNews_95 1 rfl rfl ?_
    refine z_iload_n C d_Village_getNews_96 2 rfl rfl ?_
    refine z_aload_n C d_Village_getNews_97 0 rfl rfl ?_
    refine gf_Village_15 C (zlv hv 0 rfl) rfl rfl d_Village_getNews_98 ?_
    obtain ⟨σ22, h21, hf⟩ := bd_s hf
    refine z_cVv C kl_Village_116 rfl (c_Entries_put hv (Or.inl rfl) h21) (zlv hv 43 rfl) rfl rfl rfl (Nat.le_of_ble_eq_true rfl) ⟨(Nat.le_of_ble_eq_true rfl), (Nat.le_of_ble_eq_true rfl)⟩ ⟨(Nat.le_of_ble_eq_true rfl), (Nat.le_of_ble_eq_true rfl)⟩ d_Village_getNews_101 ?_
    refine z_aload_n C d_Village_getNews_104 0 rfl rfl ?_
    refine gf_Village_57 C (zlv hv 0 rfl) rfl rfl d_Village_getNews_105 ?_
    refine z_iload_n C d_Village_getNews_108 1 rfl rfl ?_
    refine z_iload_n C d_Village_getNews_109 2 rfl rfl ?_
    obtain ⟨r24, h23, hf⟩ := bd_s hf
    refine z_cSNi C kl_Village_112 (c_Waves_cell h23) rfl rfl (Nat.le_of_ble_eq_true rfl) ⟨(Nat.le_of_ble_eq_true rfl), (Nat.le_of_ble_eq_true rfl)⟩ ⟨(Nat.le_of_ble_eq_true rfl), (Nat.le_of_ble_eq_true rfl)⟩ d_Village_getNews_110 ?_
    refine z_iload C d_Village_getNews_113 4 rfl ?_
    obtain ⟨σ26, h25, hf⟩ := bd_s hf
    refine z_cVv C kl_Village_84 rfl (c_Row_put (zrow_v hv 53 rfl) h25) (zlv hv 53 rfl) rfl rfl rfl (Nat.le_of_ble_eq_true rfl) ⟨(Nat.le_of_ble_eq_true rfl), (Nat.le_of_ble_eq_true rfl)⟩ ⟨(Nat.le_of_ble_eq_true rfl), (Nat.le_of_ble_eq_true rfl)⟩ d_Village_getNews_115 ?_
    cases hf
    exact z_vret C rfl (Nat.le_of_ble_eq_true rfl) (Nat.le_of_ble_eq_true rfl) d_Village_getNews_118
abbrev rm_Village_sendNews : Room := { frames := 3, cells := 0, slots := 0, locals := 69 }
theorem d_Village_sendNews_0 : decode b_Village_sendNews 0 = .ok (.aload_n 0, 1) := by decide +kernel
theorem d_Village_sendNews_1 : decode b_Village_sendNews 1 = .ok (.getfield 57, 3) := by decide +kernel
theorem d_Village_sendNews_4 : decode b_Village_sendNews 4 = .ok (.iload_n 1, 1) := by decide +kernel
theorem d_Village_sendNews_5 : decode b_Village_sendNews 5 = .ok (.iload_n 2, 1) := by decide +kernel
theorem d_Village_sendNews_6 : decode b_Village_sendNews 6 = .ok (.invokestatic 112, 3) := by decide +kernel
theorem d_Village_sendNews_9 : decode b_Village_sendNews 9 = .ok (.invokevirtual 134, 3) := by decide +kernel
theorem d_Village_sendNews_12 : decode b_Village_sendNews 12 = .ok (.iconst 1, 1) := by decide +kernel
theorem d_Village_sendNews_13 : decode b_Village_sendNews 13 = .ok (.iadd, 1) := by decide +kernel
theorem d_Village_sendNews_14 : decode b_Village_sendNews 14 = .ok (.istore 4, 2) := by decide +kernel
theorem d_Village_sendNews_16 : decode b_Village_sendNews 16 = .ok (.iconst 0, 1) := by decide +kernel
theorem d_Village_sendNews_17 : decode b_Village_sendNews 17 = .ok (.istore 5, 2) := by decide +kernel
theorem d_Village_sendNews_19 : decode b_Village_sendNews 19 = .ok (.iconst 0, 1) := by decide +kernel
theorem d_Village_sendNews_20 : decode b_Village_sendNews 20 = .ok (.istore 6, 2) := by decide +kernel
theorem d_Village_sendNews_22 : decode b_Village_sendNews 22 = .ok (.iload 6, 2) := by decide +kernel
theorem d_Village_sendNews_24 : decode b_Village_sendNews 24 = .ok (.aload_n 0, 1) := by decide +kernel
theorem d_Village_sendNews_25 : decode b_Village_sendNews 25 = .ok (.getfield 36, 3) := by decide +kernel
theorem d_Village_sendNews_28 : decode b_Village_sendNews 28 = .ok (.getfield 190, 3) := by decide +kernel
theorem d_Village_sendNews_31 : decode b_Village_sendNews 31 = .ok (.if_icmp .ge 51, 3) := by decide +kernel
theorem d_Village_sendNews_34 : decode b_Village_sendNews 34 = .ok (.iload_n 3, 1) := by decide +kernel
theorem d_Village_sendNews_35 : decode b_Village_sendNews 35 = .ok (.iload 6, 2) := by decide +kernel
theorem d_Village_sendNews_37 : decode b_Village_sendNews 37 = .ok (.invokestatic 138, 3) := by decide +kernel
theorem d_Village_sendNews_40 : decode b_Village_sendNews 40 = .ok (.ifCond .eq 36, 3) := by decide +kernel
theorem d_Village_sendNews_43 : decode b_Village_sendNews 43 = .ok (.aload_n 0, 1) := by decide +kernel
theorem d_Village_sendNews_44 : decode b_Village_sendNews 44 = .ok (.getfield 43, 3) := by decide +kernel
theorem d_Village_sendNews_47 : decode b_Village_sendNews 47 = .ok (.iload_n 2, 1) := by decide +kernel
theorem d_Village_sendNews_48 : decode b_Village_sendNews 48 = .ok (.iload 6, 2) := by decide +kernel
theorem d_Village_sendNews_50 : decode b_Village_sendNews 50 = .ok (.invokevirtual 223, 3) := by decide +kernel
theorem d_Village_sendNews_53 : decode b_Village_sendNews 53 = .ok (.ifCond .ne 23, 3) := by decide +kernel
theorem d_Village_sendNews_56 : decode b_Village_sendNews 56 = .ok (.aload_n 0, 1) := by decide +kernel
theorem d_Village_sendNews_57 : decode b_Village_sendNews 57 = .ok (.iload 6, 2) := by decide +kernel
theorem d_Village_sendNews_59 : decode b_Village_sendNews 59 = .ok (.iload_n 2, 1) := by decide +kernel
theorem d_Village_sendNews_60 : decode b_Village_sendNews 60 = .ok (.iload_n 1, 1) := by decide +kernel
theorem d_Village_sendNews_61 : decode b_Village_sendNews 61 = .ok (.iload 4, 2) := by decide +kernel
theorem d_Village_sendNews_63 : decode b_Village_sendNews 63 = .ok (.invokevirtual 226, 3) := by decide +kernel
theorem d_Village_sendNews_66 : decode b_Village_sendNews 66 = .ok (.iload 5, 2) := by decide +kernel
theorem d_Village_sendNews_68 : decode b_Village_sendNews 68 = .ok (.iload 6, 2) := by decide +kernel
theorem d_Village_sendNews_70 : decode b_Village_sendNews 70 = .ok (.invokestatic 154, 3) := by decide +kernel
theorem d_Village_sendNews_73 : decode b_Village_sendNews 73 = .ok (.ior, 1) := by decide +kernel
theorem d_Village_sendNews_74 : decode b_Village_sendNews 74 = .ok (.istore 5, 2) := by decide +kernel
theorem d_Village_sendNews_76 : decode b_Village_sendNews 76 = .ok (.iinc 6 1, 3) := by decide +kernel
theorem d_Village_sendNews_79 : decode b_Village_sendNews 79 = .ok (.goto (-57), 3) := by decide +kernel
theorem d_Village_sendNews_82 : decode b_Village_sendNews 82 = .ok (.aload_n 0, 1) := by decide +kernel
theorem d_Village_sendNews_83 : decode b_Village_sendNews 83 = .ok (.getfield 50, 3) := by decide +kernel
theorem d_Village_sendNews_86 : decode b_Village_sendNews 86 = .ok (.iload_n 1, 1) := by decide +kernel
theorem d_Village_sendNews_87 : decode b_Village_sendNews 87 = .ok (.iload_n 2, 1) := by decide +kernel
theorem d_Village_sendNews_88 : decode b_Village_sendNews 88 = .ok (.invokevirtual 230, 3) := by decide +kernel
theorem d_Village_sendNews_91 : decode b_Village_sendNews 91 = .ok (.aload_n 0, 1) := by decide +kernel
theorem d_Village_sendNews_92 : decode b_Village_sendNews 92 = .ok (.getfield 69, 3) := by decide +kernel
theorem d_Village_sendNews_95 : decode b_Village_sendNews 95 = .ok (.aload_n 0, 1) := by decide +kernel
theorem d_Village_sendNews_96 : decode b_Village_sendNews 96 = .ok (.getfield 15, 3) := by decide +kernel
theorem d_Village_sendNews_99 : decode b_Village_sendNews 99 = .ok (.iload_n 1, 1) := by decide +kernel
theorem d_Village_sendNews_100 : decode b_Village_sendNews 100 = .ok (.iconst 0, 1) := by decide +kernel
theorem d_Village_sendNews_101 : decode b_Village_sendNews 101 = .ok (.iload_n 2, 1) := by decide +kernel
theorem d_Village_sendNews_102 : decode b_Village_sendNews 102 = .ok (.iload_n 3, 1) := by decide +kernel
theorem d_Village_sendNews_103 : decode b_Village_sendNews 103 = .ok (.iload 5, 2) := by decide +kernel
theorem d_Village_sendNews_105 : decode b_Village_sendNews 105 = .ok (.invokevirtual 233, 3) := by decide +kernel
theorem d_Village_sendNews_108 : decode b_Village_sendNews 108 = .ok (.return_, 1) := by decide +kernel
def L_Village_sendNews (v : Nat) : Nat → Nat → Int32 → Int32 → Int32 → Int32 → Int32 → Int32 → zSt → Option (zSt)
  | 0, _, _, _, _, _, _, _, _ => none
  | n + 1, 0, x1, x2, x3, x4, x5, x6, σ => if (σ.1 v 3 0) ≤ x6 then ((F_Entries_remove v 43 x1 x2 σ).bind fun σ6 => (F_Journal_add v (σ6.1 v 0 1) x1 (0 : Int32) x2 x3 x5 σ6).bind fun σ8 => some σ8) else ((F_Waves_contains x3 x6 σ).bind fun r10 => if r10 = 0 then L_Village_sendNews v n 0 x1 x2 x3 x4 x5 (x6 + (1 : Int32)) σ else ((F_Tidings_isHeardOf v x2 x6 σ).bind fun r12 => if r12 = 0 then ((F_Village_getNews v x6 x2 x1 x4 σ).bind fun σ14 => (F_Waves_bit x6 σ14).bind fun r16 => L_Village_sendNews v n 0 x1 x2 x3 x4 (x5 ||| r16) (x6 + (1 : Int32)) σ14) else L_Village_sendNews v n 0 x1 x2 x3 x4 x5 (x6 + (1 : Int32)) σ))
  | _ + 1, _, _, _, _, _, _, _, _ => none
theorem e_Village_sendNews_0 (v : Nat) (n : Nat) (x1 : Int32) (x2 : Int32) (x3 : Int32) (x4 : Int32) (x5 : Int32) (x6 : Int32) (σ : zSt) : L_Village_sendNews v (n + 1) 0 x1 x2 x3 x4 x5 x6 σ = (if (σ.1 v 3 0) ≤ x6 then ((F_Entries_remove v 43 x1 x2 σ).bind fun σ6 => (F_Journal_add v (σ6.1 v 0 1) x1 (0 : Int32) x2 x3 x5 σ6).bind fun σ8 => some σ8) else ((F_Waves_contains x3 x6 σ).bind fun r10 => if r10 = 0 then L_Village_sendNews v n 0 x1 x2 x3 x4 x5 (x6 + (1 : Int32)) σ else ((F_Tidings_isHeardOf v x2 x6 σ).bind fun r12 => if r12 = 0 then ((F_Village_getNews v x6 x2 x1 x4 σ).bind fun σ14 => (F_Waves_bit x6 σ14).bind fun r16 => L_Village_sendNews v n 0 x1 x2 x3 x4 (x5 ||| r16) (x6 + (1 : Int32)) σ14) else L_Village_sendNews v n 0 x1 x2 x3 x4 x5 (x6 + (1 : Int32)) σ))) := rfl
set_option maxHeartbeats 4000000 in
set_option maxRecDepth 100000 in
theorem w_Village_sendNews {l : Launch} {G : zLA} {p : Program} {e : Env} {s : State} {m : MethodId} {args : Array Value} {below : List Frame} {meth : Method} {c : Code} (C : zCx G p s m args meth c "VillageWaves$Village" b_Village_sendNews 7 none) {v : Nat} (hv : zvl G v) {σ' : zSt} : ∀ n : Nat, (∀ (x1 : Int32) (x2 : Int32) (x3 : Int32) (x4 : Int32) (x5 : Int32) (x6 : Int32) (σ : zSt), L_Village_sendNews v n 0 x1 x2 x3 x4 x5 x6 σ = some σ' → zWV G p l e rm_Village_sendNews s m args below meth c 7 0 0 (zQ G below args s rm_Village_sendNews none σ') 22 [(0, .ref (zad G v 0)), (1, .int x1), (2, .int x2), (3, .int x3), (4, .int x4), (5, .int x5), (6, .int x6)] [] σ) := by
  intro n
  induction n with
  | zero => exact fun _ _ _ _ _ _ _ hf => (by cases hf)
  | succ n ih =>
    refine ?_
    · intro x1 x2 x3 x4 x5 x6 σ hf
      rw [e_Village_sendNews_0] at hf
      refine z_iload C d_Village_sendNews_22 6 rfl ?_
      refine z_aload_n C d_Village_sendNews_24 0 rfl rfl ?_
      refine gf_Village_36 C (zlv hv 0 rfl) rfl rfl d_Village_sendNews_25 ?_
      refine gf_Village_190 C (zlv hv 3 rfl) rfl rfl d_Village_sendNews_28 ?_
      refine z_icmp_ge (tgt := 82) C d_Village_sendNews_31 rfl (fun h19 => ?_) (fun h19 => ?_)
      · have hf := iff_t hf h19
        refine z_aload_n C d_Village_sendNews_82 0 rfl rfl ?_
        refine gf_Village_50 C (zlv hv 0 rfl) rfl rfl d_Village_sendNews_83 ?_
        refine z_iload_n C d_Village_sendNews_86 1 rfl rfl ?_
        refine z_iload_n C d_Village_sendNews_87 2 rfl rfl ?_
        obtain ⟨σ6, h5, hf⟩ := bd_s hf
        refine z_cVv C kl_Village_230 rfl (c_Entries_remove hv (Or.inl rfl) h5) (zlv hv 43 rfl) rfl rfl rfl (Nat.le_of_ble_eq_true rfl) ⟨(Nat.le_of_ble_eq_true rfl), (Nat.le_of_ble_eq_true rfl)⟩ ⟨(Nat.le_of_ble_eq_true rfl), (Nat.le_of_ble_eq_true rfl)⟩ d_Village_sendNews_88 ?_
        refine z_aload_n C d_Village_sendNews_91 0 rfl rfl ?_
        refine gf_Village_69 C (zlv hv 0 rfl) rfl rfl d_Village_sendNews_92 ?_
        refine z_aload_n C d_Village_sendNews_95 0 rfl rfl ?_
        refine gf_Village_15 C (zlv hv 0 rfl) rfl rfl d_Village_sendNews_96 ?_
        refine z_iload_n C d_Village_sendNews_99 1 rfl rfl ?_
        refine z_iconst C d_Village_sendNews_100 zki_0 ?_
        refine z_iload_n C d_Village_sendNews_101 2 rfl rfl ?_
        refine z_iload_n C d_Village_sendNews_102 3 rfl rfl ?_
        refine z_iload C d_Village_sendNews_103 5 rfl ?_
        obtain ⟨σ8, h7, hf⟩ := bd_s hf
        refine z_cVv C kl_Village_233 rfl (c_Journal_add hv h7) (zlv hv 59 rfl) rfl rfl rfl (Nat.le_of_ble_eq_true rfl) ⟨(Nat.le_of_ble_eq_true rfl), (Nat.le_of_ble_eq_true rfl)⟩ ⟨(Nat.le_of_ble_eq_true rfl), (Nat.le_of_ble_eq_true rfl)⟩ d_Village_sendNews_105 ?_
        cases hf
        exact z_vret C rfl (Nat.le_of_ble_eq_true rfl) (Nat.le_of_ble_eq_true rfl) d_Village_sendNews_108
      · have hf := iff_f hf h19
        refine z_iload_n C d_Village_sendNews_34 3 rfl rfl ?_
        refine z_iload C d_Village_sendNews_35 6 rfl ?_
        obtain ⟨r10, h9, hf⟩ := bd_s hf
        refine z_cSNi C kl_Village_138 (c_Waves_contains h9) rfl rfl (Nat.le_of_ble_eq_true rfl) ⟨(Nat.le_of_ble_eq_true rfl), (Nat.le_of_ble_eq_true rfl)⟩ ⟨(Nat.le_of_ble_eq_true rfl), (Nat.le_of_ble_eq_true rfl)⟩ d_Village_sendNews_37 ?_
        refine z_if_eq (tgt := 76) C d_Village_sendNews_40 rfl (fun h18 => ?_) (fun h18 => ?_)
        · have hf := iff_t hf h18
          refine z_iinc C d_Village_sendNews_76 6 rfl zki_1 (by decide) ?_
          refine z_goto (tgt := 22) C d_Village_sendNews_79 rfl ?_
          exact z_sub [1, 2, 3, 4, 5, 6, 0] rfl (ih _ _ _ _ _ _ _ hf)
        · have hf := iff_f hf h18
          refine z_aload_n C d_Village_sendNews_43 0 rfl rfl ?_
          refine gf_Village_43 C (zlv hv 0 rfl) rfl rfl d_Village_sendNews_44 ?_
          refine z_iload_n C d_Village_sendNews_47 2 rfl rfl ?_
          refine z_iload C d_Village_sendNews_48 6 rfl ?_
          obtain ⟨r12, h11, hf⟩ := bd_s hf
          refine z_cVi C kl_Village_223 rfl (c_Tidings_isHeardOf hv h11) (zlv hv 24 rfl) rfl rfl rfl (Nat.le_of_ble_eq_true rfl) ⟨(Nat.le_of_ble_eq_true rfl), (Nat.le_of_ble_eq_true rfl)⟩ ⟨(Nat.le_of_ble_eq_true rfl), (Nat.le_of_ble_eq_true rfl)⟩ d_Village_sendNews_50 ?_
          refine z_if_ne (tgt := 76) C d_Village_sendNews_53 rfl (fun h17 => ?_) (fun h17 => ?_)
          · have hf := iff_f hf h17
            refine z_iinc C d_Village_sendNews_76 6 rfl zki_1 (by decide) ?_
            refine z_goto (tgt := 22) C d_Village_sendNews_79 rfl ?_
            exact z_sub [1, 2, 3, 4, 5, 6, 0] rfl (ih _ _ _ _ _ _ _ hf)
          · have hf := iff_t hf h17
            refine z_aload_n C d_Village_sendNews_56 0 rfl rfl ?_
            refine z_iload C d_Village_sendNews_57 6 rfl ?_
            refine z_iload_n C d_Village_sendNews_59 2 rfl rfl ?_
            refine z_iload_n C d_Village_sendNews_60 1 rfl rfl ?_
            refine z_iload C d_Village_sendNews_61 4 rfl ?_
            obtain ⟨σ14, h13, hf⟩ := bd_s hf
            refine z_cVv C kl_Village_226 rfl (c_Village_getNews hv h13) (zlv hv 0 rfl) rfl rfl rfl (Nat.le_of_ble_eq_true rfl) ⟨(Nat.le_of_ble_eq_true rfl), (Nat.le_of_ble_eq_true rfl)⟩ ⟨(Nat.le_of_ble_eq_true rfl), (Nat.le_of_ble_eq_true rfl)⟩ d_Village_sendNews_63 ?_
            refine z_iload C d_Village_sendNews_66 5 rfl ?_
            refine z_iload C d_Village_sendNews_68 6 rfl ?_
            obtain ⟨r16, h15, hf⟩ := bd_s hf
            refine z_cSNi C kl_Village_154 (c_Waves_bit h15) rfl rfl (Nat.le_of_ble_eq_true rfl) ⟨(Nat.le_of_ble_eq_true rfl), (Nat.le_of_ble_eq_true rfl)⟩ ⟨(Nat.le_of_ble_eq_true rfl), (Nat.le_of_ble_eq_true rfl)⟩ d_Village_sendNews_70 ?_
            refine z_ior C d_Village_sendNews_73 ?_
            refine z_istore C d_Village_sendNews_74 (by decide) ?_
            refine z_iinc C d_Village_sendNews_76 6 rfl zki_1 (by decide) ?_
            refine z_goto (tgt := 22) C d_Village_sendNews_79 rfl ?_
            exact z_sub [2, 3, 4, 5, 6, 1, 0] rfl (ih _ _ _ _ _ _ _ hf)
def F_Village_sendNews (v : Nat) (a0 : Int32) (a1 : Int32) (a2 : Int32) (σ : zSt) : Option (zSt) :=
  (F_Waves_cell a0 a1 σ).bind fun r2 => (F_Row_get v 53 r2 σ).bind fun r4 => L_Village_sendNews v zK 0 a0 a1 a2 (r4 + (1 : Int32)) (0 : Int32) (0 : Int32) σ
set_option maxHeartbeats 4000000 in
set_option maxRecDepth 100000 in
theorem c_Village_sendNews {l : Launch} {G : zLA} {v : Nat} (hv : zvl G v) {a0 : Int32} {a1 : Int32} {a2 : Int32} {σ : zSt} {σ' : zSt} (hf : F_Village_sendNews v a0 a1 a2 σ = some σ') : zM l G y_Village_sendNews (zws y_Village_sendNews b_Village_sendNews 7 none) rm_Village_sendNews [.ref (zad G v 0), .int a0, .int a1, .int a2] σ none σ' := by
  refine z_ofM (own := "VillageWaves$Village") (lv := [(0, .ref (zad G v 0)), (1, .int a0), (2, .int a1), (3, .int a2)]) (by decide +kernel) rfl rfl (Nat.le_of_ble_eq_true rfl) (fun p e s m args below meth c C => ?_)
  rw [F_Village_sendNews] at hf
  refine z_aload_n C d_Village_sendNews_0 0 rfl rfl ?_
  refine gf_Village_57 C (zlv hv 0 rfl) rfl rfl d_Village_sendNews_1 ?_
  refine z_iload_n C d_Village_sendNews_4 1 rfl rfl ?_
  refine z_iload_n C d_Village_sendNews_5 2 rfl rfl ?_
  obtain ⟨r2, h1, hf⟩ := bd_s hf
  refine z_cSNi C kl_Village_112 (c_Waves_cell h1) rfl rfl (Nat.le_of_ble_eq_true rfl) ⟨(Nat.le_of_ble_eq_true rfl), (Nat.le_of_ble_eq_true rfl)⟩ ⟨(Nat.le_of_ble_eq_true rfl), (Nat.le_of_ble_eq_true rfl)⟩ d_Village_sendNews_6 ?_
  obtain ⟨r4, h3, hf⟩ := bd_s hf
  refine z_cVi C kl_Village_134 rfl (c_Row_get (zrow_v hv 53 rfl) h3) (zlv hv 53 rfl) rfl rfl rfl (Nat.le_of_ble_eq_true rfl) ⟨(Nat.le_of_ble_eq_true rfl), (Nat.le_of_ble_eq_true rfl)⟩ ⟨(Nat.le_of_ble_eq_true rfl), (Nat.le_of_ble_eq_true rfl)⟩ d_Village_sendNews_9 ?_
  refine z_iconst C d_Village_sendNews_12 zki_1 ?_
  refine z_iadd C d_Village_sendNews_13 ?_
  refine z_istore C d_Village_sendNews_14 (by decide) ?_
  refine z_iconst C d_Village_sendNews_16 zki_0 ?_
  refine z_istore C d_Village_sendNews_17 (by decide) ?_
  refine z_iconst C d_Village_sendNews_19 zki_0 ?_
  refine z_istore C d_Village_sendNews_20 (by decide) ?_
  exact z_sub [3, 4, 5, 6, 2, 1, 0] rfl ((w_Village_sendNews C hv zK) _ _ _ _ _ _ _ hf)
abbrev rm_Village_minute : Room := { frames := 4, cells := 0, slots := 0, locals := 95 }
theorem d_Village_minute_0 : decode b_Village_minute 0 = .ok (.aload_n 0, 1) := by decide +kernel
theorem d_Village_minute_1 : decode b_Village_minute 1 = .ok (.invokevirtual 160, 3) := by decide +kernel
theorem d_Village_minute_4 : decode b_Village_minute 4 = .ok (.aload_n 0, 1) := by decide +kernel
theorem d_Village_minute_5 : decode b_Village_minute 5 = .ok (.invokevirtual 163, 3) := by decide +kernel
theorem d_Village_minute_8 : decode b_Village_minute 8 = .ok (.istore_n 1, 1) := by decide +kernel
theorem d_Village_minute_9 : decode b_Village_minute 9 = .ok (.iload_n 1, 1) := by decide +kernel
theorem d_Village_minute_10 : decode b_Village_minute 10 = .ok (.ifCond .eq 75, 3) := by decide +kernel
theorem d_Village_minute_13 : decode b_Village_minute 13 = .ok (.aload_n 0, 1) := by decide +kernel
theorem d_Village_minute_14 : decode b_Village_minute 14 = .ok (.iload_n 1, 1) := by decide +kernel
theorem d_Village_minute_15 : decode b_Village_minute 15 = .ok (.invokevirtual 167, 3) := by decide +kernel
theorem d_Village_minute_18 : decode b_Village_minute 18 = .ok (.istore_n 2, 1) := by decide +kernel
theorem d_Village_minute_19 : decode b_Village_minute 19 = .ok (.aload_n 0, 1) := by decide +kernel
theorem d_Village_minute_20 : decode b_Village_minute 20 = .ok (.iload_n 2, 1) := by decide +kernel
theorem d_Village_minute_21 : decode b_Village_minute 21 = .ok (.invokevirtual 170, 3) := by decide +kernel
theorem d_Village_minute_24 : decode b_Village_minute 24 = .ok (.istore_n 3, 1) := by decide +kernel
theorem d_Village_minute_25 : decode b_Village_minute 25 = .ok (.aload_n 0, 1) := by decide +kernel
theorem d_Village_minute_26 : decode b_Village_minute 26 = .ok (.getfield 50, 3) := by decide +kernel
theorem d_Village_minute_29 : decode b_Village_minute 29 = .ok (.getfield 142, 3) := by decide +kernel
theorem d_Village_minute_32 : decode b_Village_minute 32 = .ok (.iload_n 2, 1) := by decide +kernel
theorem d_Village_minute_33 : decode b_Village_minute 33 = .ok (.invokevirtual 134, 3) := by decide +kernel
theorem d_Village_minute_36 : decode b_Village_minute 36 = .ok (.istore 4, 2) := by decide +kernel
theorem d_Village_minute_38 : decode b_Village_minute 38 = .ok (.aload_n 0, 1) := by decide +kernel
theorem d_Village_minute_39 : decode b_Village_minute 39 = .ok (.iload_n 2, 1) := by decide +kernel
theorem d_Village_minute_40 : decode b_Village_minute 40 = .ok (.invokevirtual 173, 3) := by decide +kernel
theorem d_Village_minute_43 : decode b_Village_minute 43 = .ok (.istore 5, 2) := by decide +kernel
theorem d_Village_minute_45 : decode b_Village_minute 45 = .ok (.iload_n 3, 1) := by decide +kernel
theorem d_Village_minute_46 : decode b_Village_minute 46 = .ok (.ifCond .eq 22, 3) := by decide +kernel
theorem d_Village_minute_49 : decode b_Village_minute 49 = .ok (.aload_n 0, 1) := by decide +kernel
theorem d_Village_minute_50 : decode b_Village_minute 50 = .ok (.iload_n 2, 1) := by decide +kernel
theorem d_Village_minute_51 : decode b_Village_minute 51 = .ok (.aload_n 0, 1) := by decide +kernel
theorem d_Village_minute_52 : decode b_Village_minute 52 = .ok (.getfield 54, 3) := by decide +kernel
theorem d_Village_minute_55 : decode b_Village_minute 55 = .ok (.iload_n 2, 1) := by decide +kernel
theorem d_Village_minute_56 : decode b_Village_minute 56 = .ok (.iload_n 3, 1) := by decide +kernel
theorem d_Village_minute_57 : decode b_Village_minute 57 = .ok (.invokevirtual 176, 3) := by decide +kernel
theorem d_Village_minute_60 : decode b_Village_minute 60 = .ok (.iload 5, 2) := by decide +kernel
theorem d_Village_minute_62 : decode b_Village_minute 62 = .ok (.invokevirtual 179, 3) := by decide +kernel
theorem d_Village_minute_65 : decode b_Village_minute 65 = .ok (.goto 20, 3) := by decide +kernel
theorem d_Village_minute_68 : decode b_Village_minute 68 = .ok (.aload_n 0, 1) := by decide +kernel
theorem d_Village_minute_69 : decode b_Village_minute 69 = .ok (.iload_n 2, 1) := by decide +kernel
theorem d_Village_minute_70 : decode b_Village_minute 70 = .ok (.aload_n 0, 1) := by decide +kernel
theorem d_Village_minute_71 : decode b_Village_minute 71 = .ok (.getfield 50, 3) := by decide +kernel
theorem d_Village_minute_74 : decode b_Village_minute 74 = .ok (.iload_n 2, 1) := by decide +kernel
theorem d_Village_minute_75 : decode b_Village_minute 75 = .ok (.iload 4, 2) := by decide +kernel
theorem d_Village_minute_77 : decode b_Village_minute 77 = .ok (.invokevirtual 176, 3) := by decide +kernel
theorem d_Village_minute_80 : decode b_Village_minute 80 = .ok (.iload 5, 2) := by decide +kernel
theorem d_Village_minute_82 : decode b_Village_minute 82 = .ok (.invokevirtual 182, 3) := by decide +kernel
theorem d_Village_minute_85 : decode b_Village_minute 85 = .ok (.aload_n 0, 1) := by decide +kernel
theorem d_Village_minute_86 : decode b_Village_minute 86 = .ok (.dup, 1) := by decide +kernel
theorem d_Village_minute_87 : decode b_Village_minute 87 = .ok (.getfield 15, 3) := by decide +kernel
theorem d_Village_minute_90 : decode b_Village_minute 90 = .ok (.iconst 1, 1) := by decide +kernel
theorem d_Village_minute_91 : decode b_Village_minute 91 = .ok (.iadd, 1) := by decide +kernel
theorem d_Village_minute_92 : decode b_Village_minute 92 = .ok (.putfield 15, 3) := by decide +kernel
theorem d_Village_minute_95 : decode b_Village_minute 95 = .ok (.return_, 1) := by decide +kernel
def F_Village_minute (v : Nat) (σ : zSt) : Option (zSt) :=
  (F_Village_beginDay v σ).bind fun σ2 => (F_Village_wishing v σ2).bind fun r4 => if r4 = 0 then some (zst σ2 v 0 1 ((σ2.1 v 0 1) + (1 : Int32))) else (bd2 (F_Village_drawnOf v r4 σ2) fun r6 σ7 => (F_Village_sendableCorrections v r6 σ7).bind fun r9 => (F_Row_get v 44 r6 σ7).bind fun r11 => bd2 (F_Village_spendOnAir v r6 σ7) fun r13 σ14 => if r9 = 0 then ((F_Entries_first v 43 r6 r11 σ14).bind fun r16 => (F_Village_sendNews v r6 r16 r13 σ14).bind fun σ18 => some (zst σ18 v 0 1 ((σ18.1 v 0 1) + (1 : Int32)))) else ((F_Entries_first v 48 r6 r9 σ14).bind fun r20 => (F_Village_sendCorrection v r6 r20 r13 σ14).bind fun σ22 => some (zst σ22 v 0 1 ((σ22.1 v 0 1) + (1 : Int32)))))
set_option maxHeartbeats 4000000 in
set_option maxRecDepth 100000 in
theorem c_Village_minute {l : Launch} {G : zLA} {v : Nat} (hv : zvl G v) {σ : zSt} {σ' : zSt} (hf : F_Village_minute v σ = some σ') : zM l G y_Village_minute (zws y_Village_minute b_Village_minute 6 none) rm_Village_minute [.ref (zad G v 0)] σ none σ' := by
  refine z_ofM (own := "VillageWaves$Village") (lv := [(0, .ref (zad G v 0))]) (by decide +kernel) rfl rfl (Nat.le_of_ble_eq_true rfl) (fun p e s m args below meth c C => ?_)
  rw [F_Village_minute] at hf
  refine z_aload_n C d_Village_minute_0 0 rfl rfl ?_
  obtain ⟨σ2, h1, hf⟩ := bd_s hf
  refine z_cVv C kl_Village_160 rfl (c_Village_beginDay hv h1) (zlv hv 0 rfl) rfl rfl rfl (Nat.le_of_ble_eq_true rfl) ⟨(Nat.le_of_ble_eq_true rfl), (Nat.le_of_ble_eq_true rfl)⟩ ⟨(Nat.le_of_ble_eq_true rfl), (Nat.le_of_ble_eq_true rfl)⟩ d_Village_minute_1 ?_
  refine z_aload_n C d_Village_minute_4 0 rfl rfl ?_
  obtain ⟨r4, h3, hf⟩ := bd_s hf
  refine z_cVi C kl_Village_163 rfl (c_Village_wishing hv h3) (zlv hv 0 rfl) rfl rfl rfl (Nat.le_of_ble_eq_true rfl) ⟨(Nat.le_of_ble_eq_true rfl), (Nat.le_of_ble_eq_true rfl)⟩ ⟨(Nat.le_of_ble_eq_true rfl), (Nat.le_of_ble_eq_true rfl)⟩ d_Village_minute_5 ?_
  refine z_istore_n C d_Village_minute_8 rfl (by decide) ?_
  refine z_iload_n C d_Village_minute_9 0 rfl rfl ?_
  refine z_if_eq (tgt := 85) C d_Village_minute_10 rfl (fun h24 => ?_) (fun h24 => ?_)
  · have hf := iff_t hf h24
    refine z_aload_n C d_Village_minute_85 1 rfl rfl ?_
    refine z_dup C d_Village_minute_86 rfl ?_
    refine gf_Village_15 C (zlv hv 0 rfl) rfl rfl d_Village_minute_87 ?_
    refine z_iconst C d_Village_minute_90 zki_1 ?_
    refine z_iadd C d_Village_minute_91 ?_
    refine pf_Village_15 C (zlv hv 0 rfl) rfl (Nat.le_of_ble_eq_true rfl) rfl d_Village_minute_92 ?_
    cases hf
    exact z_vret C rfl (Nat.le_of_ble_eq_true rfl) (Nat.le_of_ble_eq_true rfl) d_Village_minute_95
  · have hf := iff_f hf h24
    refine z_aload_n C d_Village_minute_13 1 rfl rfl ?_
    refine z_iload_n C d_Village_minute_14 0 rfl rfl ?_
    obtain ⟨r6, σ7, h5, hf⟩ := bd2_s hf
    refine z_cVi C kl_Village_167 rfl (c_Village_drawnOf hv h5) (zlv hv 0 rfl) rfl rfl rfl (Nat.le_of_ble_eq_true rfl) ⟨(Nat.le_of_ble_eq_true rfl), (Nat.le_of_ble_eq_true rfl)⟩ ⟨(Nat.le_of_ble_eq_true rfl), (Nat.le_of_ble_eq_true rfl)⟩ d_Village_minute_15 ?_
    refine z_istore_n C d_Village_minute_18 rfl (by decide) ?_
    refine z_aload_n C d_Village_minute_19 2 rfl rfl ?_
    refine z_iload_n C d_Village_minute_20 0 rfl rfl ?_
    obtain ⟨r9, h8, hf⟩ := bd_s hf
    refine z_cVi C kl_Village_170 rfl (c_Village_sendableCorrections hv h8) (zlv hv 0 rfl) rfl rfl rfl (Nat.le_of_ble_eq_true rfl) ⟨(Nat.le_of_ble_eq_true rfl), (Nat.le_of_ble_eq_true rfl)⟩ ⟨(Nat.le_of_ble_eq_true rfl), (Nat.le_of_ble_eq_true rfl)⟩ d_Village_minute_21 ?_
    refine z_istore_n C d_Village_minute_24 rfl (by decide) ?_
    refine z_aload_n C d_Village_minute_25 3 rfl rfl ?_
    refine gf_Village_50 C (zlv hv 0 rfl) rfl rfl d_Village_minute_26 ?_
    refine gf_Village_142 C (zlv hv 43 rfl) rfl rfl d_Village_minute_29 ?_
    refine z_iload_n C d_Village_minute_32 1 rfl rfl ?_
    obtain ⟨r11, h10, hf⟩ := bd_s hf
    refine z_cVi C kl_Village_134 rfl (c_Row_get (zrow_v hv 44 rfl) h10) (zlv hv 44 rfl) rfl rfl rfl (Nat.le_of_ble_eq_true rfl) ⟨(Nat.le_of_ble_eq_true rfl), (Nat.le_of_ble_eq_true rfl)⟩ ⟨(Nat.le_of_ble_eq_true rfl), (Nat.le_of_ble_eq_true rfl)⟩ d_Village_minute_33 ?_
    refine z_istore C d_Village_minute_36 (by decide) ?_
    refine z_aload_n C d_Village_minute_38 4 rfl rfl ?_
    refine z_iload_n C d_Village_minute_39 2 rfl rfl ?_
    obtain ⟨r13, σ14, h12, hf⟩ := bd2_s hf
    refine z_cVi C kl_Village_173 rfl (c_Village_spendOnAir hv h12) (zlv hv 0 rfl) rfl rfl rfl (Nat.le_of_ble_eq_true rfl) ⟨(Nat.le_of_ble_eq_true rfl), (Nat.le_of_ble_eq_true rfl)⟩ ⟨(Nat.le_of_ble_eq_true rfl), (Nat.le_of_ble_eq_true rfl)⟩ d_Village_minute_40 ?_
    refine z_istore C d_Village_minute_43 (by decide) ?_
    refine z_iload_n C d_Village_minute_45 2 rfl rfl ?_
    refine z_if_eq (tgt := 68) C d_Village_minute_46 rfl (fun h23 => ?_) (fun h23 => ?_)
    · have hf := iff_t hf h23
      refine z_aload_n C d_Village_minute_68 5 rfl rfl ?_
      refine z_iload_n C d_Village_minute_69 3 rfl rfl ?_
      refine z_aload_n C d_Village_minute_70 5 rfl rfl ?_
      refine gf_Village_50 C (zlv hv 0 rfl) rfl rfl d_Village_minute_71 ?_
      refine z_iload_n C d_Village_minute_74 3 rfl rfl ?_
      refine z_iload C d_Village_minute_75 1 rfl ?_
      obtain ⟨r16, h15, hf⟩ := bd_s hf
      refine z_cVi C kl_Village_176 rfl (c_Entries_first hv (Or.inl rfl) h15) (zlv hv 43 rfl) rfl rfl rfl (Nat.le_of_ble_eq_true rfl) ⟨(Nat.le_of_ble_eq_true rfl), (Nat.le_of_ble_eq_true rfl)⟩ ⟨(Nat.le_of_ble_eq_true rfl), (Nat.le_of_ble_eq_true rfl)⟩ d_Village_minute_77 ?_
      refine z_iload C d_Village_minute_80 0 rfl ?_
      obtain ⟨σ18, h17, hf⟩ := bd_s hf
      refine z_cVv C kl_Village_182 rfl (c_Village_sendNews hv h17) (zlv hv 0 rfl) rfl rfl rfl (Nat.le_of_ble_eq_true rfl) ⟨(Nat.le_of_ble_eq_true rfl), (Nat.le_of_ble_eq_true rfl)⟩ ⟨(Nat.le_of_ble_eq_true rfl), (Nat.le_of_ble_eq_true rfl)⟩ d_Village_minute_82 ?_
      refine z_aload_n C d_Village_minute_85 5 rfl rfl ?_
      refine z_dup C d_Village_minute_86 rfl ?_
      refine gf_Village_15 C (zlv hv 0 rfl) rfl rfl d_Village_minute_87 ?_
      refine z_iconst C d_Village_minute_90 zki_1 ?_
      refine z_iadd C d_Village_minute_91 ?_
      refine pf_Village_15 C (zlv hv 0 rfl) rfl (Nat.le_of_ble_eq_true rfl) rfl d_Village_minute_92 ?_
      cases hf
      exact z_vret C rfl (Nat.le_of_ble_eq_true rfl) (Nat.le_of_ble_eq_true rfl) d_Village_minute_95
    · have hf := iff_f hf h23
      refine z_aload_n C d_Village_minute_49 5 rfl rfl ?_
      refine z_iload_n C d_Village_minute_50 3 rfl rfl ?_
      refine z_aload_n C d_Village_minute_51 5 rfl rfl ?_
      refine gf_Village_54 C (zlv hv 0 rfl) rfl rfl d_Village_minute_52 ?_
      refine z_iload_n C d_Village_minute_55 3 rfl rfl ?_
      refine z_iload_n C d_Village_minute_56 2 rfl rfl ?_
      obtain ⟨r20, h19, hf⟩ := bd_s hf
      refine z_cVi C kl_Village_176 rfl (c_Entries_first hv (Or.inr rfl) h19) (zlv hv 48 rfl) rfl rfl rfl (Nat.le_of_ble_eq_true rfl) ⟨(Nat.le_of_ble_eq_true rfl), (Nat.le_of_ble_eq_true rfl)⟩ ⟨(Nat.le_of_ble_eq_true rfl), (Nat.le_of_ble_eq_true rfl)⟩ d_Village_minute_57 ?_
      refine z_iload C d_Village_minute_60 0 rfl ?_
      obtain ⟨σ22, h21, hf⟩ := bd_s hf
      refine z_cVv C kl_Village_179 rfl (c_Village_sendCorrection hv h21) (zlv hv 0 rfl) rfl rfl rfl (Nat.le_of_ble_eq_true rfl) ⟨(Nat.le_of_ble_eq_true rfl), (Nat.le_of_ble_eq_true rfl)⟩ ⟨(Nat.le_of_ble_eq_true rfl), (Nat.le_of_ble_eq_true rfl)⟩ d_Village_minute_62 ?_
      refine z_goto (tgt := 85) C d_Village_minute_65 rfl ?_
      refine z_aload_n C d_Village_minute_85 5 rfl rfl ?_
      refine z_dup C d_Village_minute_86 rfl ?_
      refine gf_Village_15 C (zlv hv 0 rfl) rfl rfl d_Village_minute_87 ?_
      refine z_iconst C d_Village_minute_90 zki_1 ?_
      refine z_iadd C d_Village_minute_91 ?_
      refine pf_Village_15 C (zlv hv 0 rfl) rfl (Nat.le_of_ble_eq_true rfl) rfl d_Village_minute_92 ?_
      cases hf
      exact z_vret C rfl (Nat.le_of_ble_eq_true rfl) (Nat.le_of_ble_eq_true rfl) d_Village_minute_95
abbrev rm_Village_pass : Room := { frames := 5, cells := 0, slots := 0, locals := 120 }
theorem d_Village_pass_0 : decode b_Village_pass 0 = .ok (.iconst 0, 1) := by decide +kernel
theorem d_Village_pass_1 : decode b_Village_pass 1 = .ok (.istore_n 2, 1) := by decide +kernel
theorem d_Village_pass_2 : decode b_Village_pass 2 = .ok (.iload_n 2, 1) := by decide +kernel
theorem d_Village_pass_3 : decode b_Village_pass 3 = .ok (.iload_n 1, 1) := by decide +kernel
theorem d_Village_pass_4 : decode b_Village_pass 4 = .ok (.if_icmp .ge 13, 3) := by decide +kernel
theorem d_Village_pass_7 : decode b_Village_pass 7 = .ok (.aload_n 0, 1) := by decide +kernel
theorem d_Village_pass_8 : decode b_Village_pass 8 = .ok (.invokevirtual 157, 3) := by decide +kernel
theorem d_Village_pass_11 : decode b_Village_pass 11 = .ok (.iinc 2 1, 3) := by decide +kernel
theorem d_Village_pass_14 : decode b_Village_pass 14 = .ok (.goto (-12), 3) := by decide +kernel
theorem d_Village_pass_17 : decode b_Village_pass 17 = .ok (.return_, 1) := by decide +kernel
def L_Village_pass (v : Nat) : Nat → Nat → Int32 → Int32 → zSt → Option (zSt)
  | 0, _, _, _, _ => none
  | n + 1, 0, x1, x2, σ => if x1 ≤ x2 then some σ else ((F_Village_minute v σ).bind fun σ2 => L_Village_pass v n 0 x1 (x2 + (1 : Int32)) σ2)
  | _ + 1, _, _, _, _ => none
theorem e_Village_pass_0 (v : Nat) (n : Nat) (x1 : Int32) (x2 : Int32) (σ : zSt) : L_Village_pass v (n + 1) 0 x1 x2 σ = (if x1 ≤ x2 then some σ else ((F_Village_minute v σ).bind fun σ2 => L_Village_pass v n 0 x1 (x2 + (1 : Int32)) σ2)) := rfl
set_option maxHeartbeats 4000000 in
set_option maxRecDepth 100000 in
theorem w_Village_pass {l : Launch} {G : zLA} {p : Program} {e : Env} {s : State} {m : MethodId} {args : Array Value} {below : List Frame} {meth : Method} {c : Code} (C : zCx G p s m args meth c "VillageWaves$Village" b_Village_pass 3 none) {v : Nat} (hv : zvl G v) {σ' : zSt} : ∀ n : Nat, (∀ (x1 : Int32) (x2 : Int32) (σ : zSt), L_Village_pass v n 0 x1 x2 σ = some σ' → zWV G p l e rm_Village_pass s m args below meth c 3 0 0 (zQ G below args s rm_Village_pass none σ') 2 [(0, .ref (zad G v 0)), (1, .int x1), (2, .int x2)] [] σ) := by
  intro n
  induction n with
  | zero => exact fun _ _ _ hf => (by cases hf)
  | succ n ih =>
    refine ?_
    · intro x1 x2 σ hf
      rw [e_Village_pass_0] at hf
      refine z_iload_n C d_Village_pass_2 2 rfl rfl ?_
      refine z_iload_n C d_Village_pass_3 1 rfl rfl ?_
      refine z_icmp_ge (tgt := 17) C d_Village_pass_4 rfl (fun h3 => ?_) (fun h3 => ?_)
      · have hf := iff_t hf h3
        cases hf
        exact z_vret C rfl (Nat.le_of_ble_eq_true rfl) (Nat.le_of_ble_eq_true rfl) d_Village_pass_17
      · have hf := iff_f hf h3
        refine z_aload_n C d_Village_pass_7 0 rfl rfl ?_
        obtain ⟨σ2, h1, hf⟩ := bd_s hf
        refine z_cVv C kl_Village_157 rfl (c_Village_minute hv h1) (zlv hv 0 rfl) rfl rfl rfl (Nat.le_of_ble_eq_true rfl) ⟨(Nat.le_of_ble_eq_true rfl), (Nat.le_of_ble_eq_true rfl)⟩ ⟨(Nat.le_of_ble_eq_true rfl), (Nat.le_of_ble_eq_true rfl)⟩ d_Village_pass_8 ?_
        refine z_iinc C d_Village_pass_11 2 rfl zki_1 (by decide) ?_
        refine z_goto (tgt := 2) C d_Village_pass_14 rfl ?_
        exact z_sub [1, 2, 0] rfl (ih _ _ _ hf)
def F_Village_pass (v : Nat) (a0 : Int32) (σ : zSt) : Option (zSt) :=
  L_Village_pass v zK 0 a0 (0 : Int32) σ
set_option maxHeartbeats 4000000 in
set_option maxRecDepth 100000 in
theorem c_Village_pass {l : Launch} {G : zLA} {v : Nat} (hv : zvl G v) {a0 : Int32} {σ : zSt} {σ' : zSt} (hf : F_Village_pass v a0 σ = some σ') : zM l G y_Village_pass (zws y_Village_pass b_Village_pass 3 none) rm_Village_pass [.ref (zad G v 0), .int a0] σ none σ' := by
  refine z_ofM (own := "VillageWaves$Village") (lv := [(0, .ref (zad G v 0)), (1, .int a0)]) (by decide +kernel) rfl rfl (Nat.le_of_ble_eq_true rfl) (fun p e s m args below meth c C => ?_)
  rw [F_Village_pass] at hf
  refine z_iconst C d_Village_pass_0 zki_0 ?_
  refine z_istore_n C d_Village_pass_1 rfl (by decide) ?_
  exact z_sub [1, 2, 0] rfl ((w_Village_pass C hv zK) _ _ _ hf)
