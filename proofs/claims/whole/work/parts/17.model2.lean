abbrev rm_Model_errorCode : Room := { frames := 0, cells := 0, slots := 0, locals := 0 }
theorem d_Model_errorCode_0 : decode b_Model_errorCode 0 = .ok (.aload_n 0, 1) := by decide +kernel
theorem d_Model_errorCode_1 : decode b_Model_errorCode 1 = .ok (.iconst 0, 1) := by decide +kernel
theorem d_Model_errorCode_2 : decode b_Model_errorCode 2 = .ok (.putfield 48, 3) := by decide +kernel
theorem d_Model_errorCode_5 : decode b_Model_errorCode 5 = .ok (.aload_n 0, 1) := by decide +kernel
theorem d_Model_errorCode_6 : decode b_Model_errorCode 6 = .ok (.getfield 110, 3) := by decide +kernel
theorem d_Model_errorCode_9 : decode b_Model_errorCode 9 = .ok (.ireturn, 1) := by decide +kernel
def F_Model_errorCode (σ : zSt) : Option (Int32 × zSt) :=
  some (((zst σ 4 80 8 (0 : Int32)).1 4 80 16), (zst σ 4 80 8 (0 : Int32)))
set_option maxHeartbeats 4000000 in
set_option maxRecDepth 100000 in
theorem c_Model_errorCode {l : Launch} {G : zLA} (hm : zml G) {σ : zSt} {r : Int32} {σ' : zSt} (hf : F_Model_errorCode σ = some (r, σ')) : zM l G y_Model_errorCode (zws y_Model_errorCode b_Model_errorCode 1 (some .int)) rm_Model_errorCode [.ref (zad G 4 80)] σ (some (.int r)) σ' := by
  refine z_ofM (own := "VillageWavesModel") (lv := [(0, .ref (zad G 4 80))]) (by decide +kernel) rfl rfl (Nat.le_of_ble_eq_true rfl) (fun p e s m args below meth c C => ?_)
  rw [F_Model_errorCode] at hf
  refine z_aload_n C d_Model_errorCode_0 0 rfl rfl ?_
  refine z_iconst C d_Model_errorCode_1 zki_0 ?_
  refine pf_Model_48 C (zm4 hm 80 rfl) rfl (Nat.le_of_ble_eq_true rfl) rfl d_Model_errorCode_2 ?_
  refine z_aload_n C d_Model_errorCode_5 0 rfl rfl ?_
  refine gf_Model_110 C (zm4 hm 80 rfl) rfl rfl d_Model_errorCode_6 ?_
  cases hf
  exact z_iret C rfl (Nat.le_of_ble_eq_true rfl) (Nat.le_of_ble_eq_true rfl) d_Model_errorCode_9
abbrev rm_Model_errorPosition : Room := { frames := 0, cells := 0, slots := 0, locals := 0 }
theorem d_Model_errorPosition_0 : decode b_Model_errorPosition 0 = .ok (.aload_n 0, 1) := by decide +kernel
theorem d_Model_errorPosition_1 : decode b_Model_errorPosition 1 = .ok (.iconst 0, 1) := by decide +kernel
theorem d_Model_errorPosition_2 : decode b_Model_errorPosition 2 = .ok (.putfield 48, 3) := by decide +kernel
theorem d_Model_errorPosition_5 : decode b_Model_errorPosition 5 = .ok (.aload_n 0, 1) := by decide +kernel
theorem d_Model_errorPosition_6 : decode b_Model_errorPosition 6 = .ok (.getfield 38, 3) := by decide +kernel
theorem d_Model_errorPosition_9 : decode b_Model_errorPosition 9 = .ok (.ireturn, 1) := by decide +kernel
def F_Model_errorPosition (σ : zSt) : Option (Int32 × zSt) :=
  some (((zst σ 4 80 8 (0 : Int32)).1 4 80 17), (zst σ 4 80 8 (0 : Int32)))
set_option maxHeartbeats 4000000 in
set_option maxRecDepth 100000 in
theorem c_Model_errorPosition {l : Launch} {G : zLA} (hm : zml G) {σ : zSt} {r : Int32} {σ' : zSt} (hf : F_Model_errorPosition σ = some (r, σ')) : zM l G y_Model_errorPosition (zws y_Model_errorPosition b_Model_errorPosition 1 (some .int)) rm_Model_errorPosition [.ref (zad G 4 80)] σ (some (.int r)) σ' := by
  refine z_ofM (own := "VillageWavesModel") (lv := [(0, .ref (zad G 4 80))]) (by decide +kernel) rfl rfl (Nat.le_of_ble_eq_true rfl) (fun p e s m args below meth c C => ?_)
  rw [F_Model_errorPosition] at hf
  refine z_aload_n C d_Model_errorPosition_0 0 rfl rfl ?_
  refine z_iconst C d_Model_errorPosition_1 zki_0 ?_
  refine pf_Model_48 C (zm4 hm 80 rfl) rfl (Nat.le_of_ble_eq_true rfl) rfl d_Model_errorPosition_2 ?_
  refine z_aload_n C d_Model_errorPosition_5 0 rfl rfl ?_
  refine gf_Model_38 C (zm4 hm 80 rfl) rfl rfl d_Model_errorPosition_6 ?_
  cases hf
  exact z_iret C rfl (Nat.le_of_ble_eq_true rfl) (Nat.le_of_ble_eq_true rfl) d_Model_errorPosition_9
abbrev rm_Model_addHouse : Room := { frames := 4, cells := 0, slots := 0, locals := 95 }
theorem d_Model_addHouse_0 : decode b_Model_addHouse 0 = .ok (.aload_n 0, 1) := by decide +kernel
theorem d_Model_addHouse_1 : decode b_Model_addHouse 1 = .ok (.iconst 0, 1) := by decide +kernel
theorem d_Model_addHouse_2 : decode b_Model_addHouse 2 = .ok (.putfield 48, 3) := by decide +kernel
theorem d_Model_addHouse_5 : decode b_Model_addHouse 5 = .ok (.iload_n 1, 1) := by decide +kernel
theorem d_Model_addHouse_6 : decode b_Model_addHouse 6 = .ok (.iconst 0, 1) := by decide +kernel
theorem d_Model_addHouse_7 : decode b_Model_addHouse 7 = .ok (.bipush 99, 2) := by decide +kernel
theorem d_Model_addHouse_9 : decode b_Model_addHouse 9 = .ok (.invokestatic 51, 3) := by decide +kernel
theorem d_Model_addHouse_12 : decode b_Model_addHouse 12 = .ok (.ifCond .eq 47, 3) := by decide +kernel
theorem d_Model_addHouse_15 : decode b_Model_addHouse 15 = .ok (.iload_n 2, 1) := by decide +kernel
theorem d_Model_addHouse_16 : decode b_Model_addHouse 16 = .ok (.iconst 0, 1) := by decide +kernel
theorem d_Model_addHouse_17 : decode b_Model_addHouse 17 = .ok (.bipush 99, 2) := by decide +kernel
theorem d_Model_addHouse_19 : decode b_Model_addHouse 19 = .ok (.invokestatic 51, 3) := by decide +kernel
theorem d_Model_addHouse_22 : decode b_Model_addHouse 22 = .ok (.ifCond .eq 37, 3) := by decide +kernel
theorem d_Model_addHouse_25 : decode b_Model_addHouse 25 = .ok (.iload_n 3, 1) := by decide +kernel
theorem d_Model_addHouse_26 : decode b_Model_addHouse 26 = .ok (.iconst 0, 1) := by decide +kernel
theorem d_Model_addHouse_27 : decode b_Model_addHouse 27 = .ok (.sipush 150, 3) := by decide +kernel
theorem d_Model_addHouse_30 : decode b_Model_addHouse 30 = .ok (.invokestatic 51, 3) := by decide +kernel
theorem d_Model_addHouse_33 : decode b_Model_addHouse 33 = .ok (.ifCond .eq 26, 3) := by decide +kernel
theorem d_Model_addHouse_36 : decode b_Model_addHouse 36 = .ok (.iload 4, 2) := by decide +kernel
theorem d_Model_addHouse_38 : decode b_Model_addHouse 38 = .ok (.iconst 0, 1) := by decide +kernel
theorem d_Model_addHouse_39 : decode b_Model_addHouse 39 = .ok (.sipush 999, 3) := by decide +kernel
theorem d_Model_addHouse_42 : decode b_Model_addHouse 42 = .ok (.invokestatic 51, 3) := by decide +kernel
theorem d_Model_addHouse_45 : decode b_Model_addHouse 45 = .ok (.ifCond .eq 14, 3) := by decide +kernel
theorem d_Model_addHouse_48 : decode b_Model_addHouse 48 = .ok (.iload 5, 2) := by decide +kernel
theorem d_Model_addHouse_50 : decode b_Model_addHouse 50 = .ok (.iconst 1, 1) := by decide +kernel
theorem d_Model_addHouse_51 : decode b_Model_addHouse 51 = .ok (.bipush 9, 2) := by decide +kernel
theorem d_Model_addHouse_53 : decode b_Model_addHouse 53 = .ok (.invokestatic 51, 3) := by decide +kernel
theorem d_Model_addHouse_56 : decode b_Model_addHouse 56 = .ok (.ifCond .ne 9, 3) := by decide +kernel
theorem d_Model_addHouse_59 : decode b_Model_addHouse 59 = .ok (.aload_n 0, 1) := by decide +kernel
theorem d_Model_addHouse_60 : decode b_Model_addHouse 60 = .ok (.iconst 1, 1) := by decide +kernel
theorem d_Model_addHouse_61 : decode b_Model_addHouse 61 = .ok (.invokevirtual 62, 3) := by decide +kernel
theorem d_Model_addHouse_64 : decode b_Model_addHouse 64 = .ok (.ireturn, 1) := by decide +kernel
theorem d_Model_addHouse_65 : decode b_Model_addHouse 65 = .ok (.aload_n 0, 1) := by decide +kernel
theorem d_Model_addHouse_66 : decode b_Model_addHouse 66 = .ok (.getfield 7, 3) := by decide +kernel
theorem d_Model_addHouse_69 : decode b_Model_addHouse 69 = .ok (.bipush 6, 2) := by decide +kernel
theorem d_Model_addHouse_71 : decode b_Model_addHouse 71 = .ok (.iaload, 1) := by decide +kernel
theorem d_Model_addHouse_72 : decode b_Model_addHouse 72 = .ok (.bipush 12, 2) := by decide +kernel
theorem d_Model_addHouse_74 : decode b_Model_addHouse 74 = .ok (.if_icmp .ne 11, 3) := by decide +kernel
theorem d_Model_addHouse_77 : decode b_Model_addHouse 77 = .ok (.aload_n 0, 1) := by decide +kernel
theorem d_Model_addHouse_78 : decode b_Model_addHouse 78 = .ok (.iconst 2, 1) := by decide +kernel
theorem d_Model_addHouse_79 : decode b_Model_addHouse 79 = .ok (.invokevirtual 62, 3) := by decide +kernel
theorem d_Model_addHouse_82 : decode b_Model_addHouse 82 = .ok (.goto 14, 3) := by decide +kernel
theorem d_Model_addHouse_85 : decode b_Model_addHouse 85 = .ok (.aload_n 0, 1) := by decide +kernel
theorem d_Model_addHouse_86 : decode b_Model_addHouse 86 = .ok (.iload_n 1, 1) := by decide +kernel
theorem d_Model_addHouse_87 : decode b_Model_addHouse 87 = .ok (.iload_n 2, 1) := by decide +kernel
theorem d_Model_addHouse_88 : decode b_Model_addHouse 88 = .ok (.iload_n 3, 1) := by decide +kernel
theorem d_Model_addHouse_89 : decode b_Model_addHouse 89 = .ok (.iload 4, 2) := by decide +kernel
theorem d_Model_addHouse_91 : decode b_Model_addHouse 91 = .ok (.iload 5, 2) := by decide +kernel
theorem d_Model_addHouse_93 : decode b_Model_addHouse 93 = .ok (.invokevirtual 136, 3) := by decide +kernel
theorem d_Model_addHouse_96 : decode b_Model_addHouse 96 = .ok (.ireturn, 1) := by decide +kernel
def F_Model_addHouse (a0 : Int32) (a1 : Int32) (a2 : Int32) (a3 : Int32) (a4 : Int32) (σ : zSt) : Option (Int32 × zSt) :=
  (F_Model_isBetween a0 (0 : Int32) (99 : Int32) (zst σ 4 80 8 (0 : Int32))).bind fun r2 => if r2 = 0 then (bd2 (F_Model_fail (1 : Int32) (zst σ 4 80 8 (0 : Int32))) fun r4 σ5 => some (r4, σ5)) else ((F_Model_isBetween a1 (0 : Int32) (99 : Int32) (zst σ 4 80 8 (0 : Int32))).bind fun r7 => if r7 = 0 then (bd2 (F_Model_fail (1 : Int32) (zst σ 4 80 8 (0 : Int32))) fun r9 σ10 => some (r9, σ10)) else ((F_Model_isBetween a2 (0 : Int32) (150 : Int32) (zst σ 4 80 8 (0 : Int32))).bind fun r12 => if r12 = 0 then (bd2 (F_Model_fail (1 : Int32) (zst σ 4 80 8 (0 : Int32))) fun r14 σ15 => some (r14, σ15)) else ((F_Model_isBetween a3 (0 : Int32) (999 : Int32) (zst σ 4 80 8 (0 : Int32))).bind fun r17 => if r17 = 0 then (bd2 (F_Model_fail (1 : Int32) (zst σ 4 80 8 (0 : Int32))) fun r19 σ20 => some (r19, σ20)) else ((F_Model_isBetween a4 (1 : Int32) (9 : Int32) (zst σ 4 80 8 (0 : Int32))).bind fun r22 => if r22 = 0 then (bd2 (F_Model_fail (1 : Int32) (zst σ 4 80 8 (0 : Int32))) fun r31 σ32 => some (r31, σ32)) else (if ((zst σ 4 80 8 (0 : Int32)).1 4 81 6) = (12 : Int32) then (bd2 (F_Model_fail (2 : Int32) (zst σ 4 80 8 (0 : Int32))) fun r27 σ28 => some (r27, σ28)) else (bd2 (F_Model_appendHouse a0 a1 a2 a3 a4 (zst σ 4 80 8 (0 : Int32))) fun r24 σ25 => some (r24, σ25)))))))
set_option maxHeartbeats 4000000 in
set_option maxRecDepth 100000 in
theorem c_Model_addHouse {l : Launch} {G : zLA} (hm : zml G) {a0 : Int32} {a1 : Int32} {a2 : Int32} {a3 : Int32} {a4 : Int32} {σ : zSt} {r : Int32} {σ' : zSt} (hf : F_Model_addHouse a0 a1 a2 a3 a4 σ = some (r, σ')) : zM l G y_Model_addHouse (zws y_Model_addHouse b_Model_addHouse 6 (some .int)) rm_Model_addHouse [.ref (zad G 4 80), .int a0, .int a1, .int a2, .int a3, .int a4] σ (some (.int r)) σ' := by
  refine z_ofM (own := "VillageWavesModel") (lv := [(0, .ref (zad G 4 80)), (1, .int a0), (2, .int a1), (3, .int a2), (4, .int a3), (5, .int a4)]) (by decide +kernel) rfl rfl (Nat.le_of_ble_eq_true rfl) (fun p e s m args below meth c C => ?_)
  rw [F_Model_addHouse] at hf
  refine z_aload_n C d_Model_addHouse_0 0 rfl rfl ?_
  refine z_iconst C d_Model_addHouse_1 zki_0 ?_
  refine pf_Model_48 C (zm4 hm 80 rfl) rfl (Nat.le_of_ble_eq_true rfl) rfl d_Model_addHouse_2 ?_
  refine z_iload_n C d_Model_addHouse_5 1 rfl rfl ?_
  refine z_iconst C d_Model_addHouse_6 zki_0 ?_
  refine z_bipush C d_Model_addHouse_7 zkb_99 ?_
  obtain ⟨r2, h1, hf⟩ := bd_s hf
  refine z_cSi C kl_Model_51 (c_Model_isBetween h1) rfl rfl (Nat.le_of_ble_eq_true rfl) ⟨(Nat.le_of_ble_eq_true rfl), (Nat.le_of_ble_eq_true rfl)⟩ ⟨(Nat.le_of_ble_eq_true rfl), (Nat.le_of_ble_eq_true rfl)⟩ d_Model_addHouse_9 ?_
  refine z_if_eq (tgt := 59) C d_Model_addHouse_12 rfl (fun h37 => ?_) (fun h37 => ?_)
  · have hf := iff_t hf h37
    refine z_aload_n C d_Model_addHouse_59 0 rfl rfl ?_
    refine z_iconst C d_Model_addHouse_60 zki_1 ?_
    obtain ⟨r4, σ5, h3, hf⟩ := bd2_s hf
    refine z_cVi C kl_Model_62 rfl (c_Model_fail hm h3) (zm4 hm 80 rfl) rfl rfl rfl (Nat.le_of_ble_eq_true rfl) ⟨(Nat.le_of_ble_eq_true rfl), (Nat.le_of_ble_eq_true rfl)⟩ ⟨(Nat.le_of_ble_eq_true rfl), (Nat.le_of_ble_eq_true rfl)⟩ d_Model_addHouse_61 ?_
    cases hf
    exact z_iret C rfl (Nat.le_of_ble_eq_true rfl) (Nat.le_of_ble_eq_true rfl) d_Model_addHouse_64
  · have hf := iff_f hf h37
    refine z_iload_n C d_Model_addHouse_15 2 rfl rfl ?_
    refine z_iconst C d_Model_addHouse_16 zki_0 ?_
    refine z_bipush C d_Model_addHouse_17 zkb_99 ?_
    obtain ⟨r7, h6, hf⟩ := bd_s hf
    refine z_cSi C kl_Model_51 (c_Model_isBetween h6) rfl rfl (Nat.le_of_ble_eq_true rfl) ⟨(Nat.le_of_ble_eq_true rfl), (Nat.le_of_ble_eq_true rfl)⟩ ⟨(Nat.le_of_ble_eq_true rfl), (Nat.le_of_ble_eq_true rfl)⟩ d_Model_addHouse_19 ?_
    refine z_if_eq (tgt := 59) C d_Model_addHouse_22 rfl (fun h36 => ?_) (fun h36 => ?_)
    · have hf := iff_t hf h36
      refine z_aload_n C d_Model_addHouse_59 0 rfl rfl ?_
      refine z_iconst C d_Model_addHouse_60 zki_1 ?_
      obtain ⟨r9, σ10, h8, hf⟩ := bd2_s hf
      refine z_cVi C kl_Model_62 rfl (c_Model_fail hm h8) (zm4 hm 80 rfl) rfl rfl rfl (Nat.le_of_ble_eq_true rfl) ⟨(Nat.le_of_ble_eq_true rfl), (Nat.le_of_ble_eq_true rfl)⟩ ⟨(Nat.le_of_ble_eq_true rfl), (Nat.le_of_ble_eq_true rfl)⟩ d_Model_addHouse_61 ?_
      cases hf
      exact z_iret C rfl (Nat.le_of_ble_eq_true rfl) (Nat.le_of_ble_eq_true rfl) d_Model_addHouse_64
    · have hf := iff_f hf h36
      refine z_iload_n C d_Model_addHouse_25 3 rfl rfl ?_
      refine z_iconst C d_Model_addHouse_26 zki_0 ?_
      refine z_sipush C d_Model_addHouse_27 zks_150 ?_
      obtain ⟨r12, h11, hf⟩ := bd_s hf
      refine z_cSi C kl_Model_51 (c_Model_isBetween h11) rfl rfl (Nat.le_of_ble_eq_true rfl) ⟨(Nat.le_of_ble_eq_true rfl), (Nat.le_of_ble_eq_true rfl)⟩ ⟨(Nat.le_of_ble_eq_true rfl), (Nat.le_of_ble_eq_true rfl)⟩ d_Model_addHouse_30 ?_
      refine z_if_eq (tgt := 59) C d_Model_addHouse_33 rfl (fun h35 => ?_) (fun h35 => ?_)
      · have hf := iff_t hf h35
        refine z_aload_n C d_Model_addHouse_59 0 rfl rfl ?_
        refine z_iconst C d_Model_addHouse_60 zki_1 ?_
        obtain ⟨r14, σ15, h13, hf⟩ := bd2_s hf
        refine z_cVi C kl_Model_62 rfl (c_Model_fail hm h13) (zm4 hm 80 rfl) rfl rfl rfl (Nat.le_of_ble_eq_true rfl) ⟨(Nat.le_of_ble_eq_true rfl), (Nat.le_of_ble_eq_true rfl)⟩ ⟨(Nat.le_of_ble_eq_true rfl), (Nat.le_of_ble_eq_true rfl)⟩ d_Model_addHouse_61 ?_
        cases hf
        exact z_iret C rfl (Nat.le_of_ble_eq_true rfl) (Nat.le_of_ble_eq_true rfl) d_Model_addHouse_64
      · have hf := iff_f hf h35
        refine z_iload C d_Model_addHouse_36 4 rfl ?_
        refine z_iconst C d_Model_addHouse_38 zki_0 ?_
        refine z_sipush C d_Model_addHouse_39 zks_999 ?_
        obtain ⟨r17, h16, hf⟩ := bd_s hf
        refine z_cSi C kl_Model_51 (c_Model_isBetween h16) rfl rfl (Nat.le_of_ble_eq_true rfl) ⟨(Nat.le_of_ble_eq_true rfl), (Nat.le_of_ble_eq_true rfl)⟩ ⟨(Nat.le_of_ble_eq_true rfl), (Nat.le_of_ble_eq_true rfl)⟩ d_Model_addHouse_42 ?_
        refine z_if_eq (tgt := 59) C d_Model_addHouse_45 rfl (fun h34 => ?_) (fun h34 => ?_)
        · have hf := iff_t hf h34
          refine z_aload_n C d_Model_addHouse_59 0 rfl rfl ?_
          refine z_iconst C d_Model_addHouse_60 zki_1 ?_
          obtain ⟨r19, σ20, h18, hf⟩ := bd2_s hf
          refine z_cVi C kl_Model_62 rfl (c_Model_fail hm h18) (zm4 hm 80 rfl) rfl rfl rfl (Nat.le_of_ble_eq_true rfl) ⟨(Nat.le_of_ble_eq_true rfl), (Nat.le_of_ble_eq_true rfl)⟩ ⟨(Nat.le_of_ble_eq_true rfl), (Nat.le_of_ble_eq_true rfl)⟩ d_Model_addHouse_61 ?_
          cases hf
          exact z_iret C rfl (Nat.le_of_ble_eq_true rfl) (Nat.le_of_ble_eq_true rfl) d_Model_addHouse_64
        · have hf := iff_f hf h34
          refine z_iload C d_Model_addHouse_48 5 rfl ?_
          refine z_iconst C d_Model_addHouse_50 zki_1 ?_
          refine z_bipush C d_Model_addHouse_51 zkb_9 ?_
          obtain ⟨r22, h21, hf⟩ := bd_s hf
          refine z_cSi C kl_Model_51 (c_Model_isBetween h21) rfl rfl (Nat.le_of_ble_eq_true rfl) ⟨(Nat.le_of_ble_eq_true rfl), (Nat.le_of_ble_eq_true rfl)⟩ ⟨(Nat.le_of_ble_eq_true rfl), (Nat.le_of_ble_eq_true rfl)⟩ d_Model_addHouse_53 ?_
          refine z_if_ne (tgt := 65) C d_Model_addHouse_56 rfl (fun h33 => ?_) (fun h33 => ?_)
          · have hf := iff_f hf h33
            refine z_aload_n C d_Model_addHouse_65 0 rfl rfl ?_
            refine gf_Model_7 C (zm4 hm 80 rfl) rfl rfl d_Model_addHouse_66 ?_
            refine z_bipush C d_Model_addHouse_69 zkb_6 ?_
            refine z_iald C (zm4 hm 81 rfl) rfl (inb_in (by decide)) zc_6 d_Model_addHouse_71 ?_
            refine z_bipush C d_Model_addHouse_72 zkb_12 ?_
            refine z_icmp_ne (tgt := 85) C d_Model_addHouse_74 rfl (fun h29 => ?_) (fun h29 => ?_)
            · have hf := iff_f hf h29
              refine z_aload_n C d_Model_addHouse_85 0 rfl rfl ?_
              refine z_iload_n C d_Model_addHouse_86 1 rfl rfl ?_
              refine z_iload_n C d_Model_addHouse_87 2 rfl rfl ?_
              refine z_iload_n C d_Model_addHouse_88 3 rfl rfl ?_
              refine z_iload C d_Model_addHouse_89 4 rfl ?_
              refine z_iload C d_Model_addHouse_91 5 rfl ?_
              obtain ⟨r24, σ25, h23, hf⟩ := bd2_s hf
              refine z_cVi C kl_Model_136 rfl (c_Model_appendHouse hm h23) (zm4 hm 80 rfl) rfl rfl rfl (Nat.le_of_ble_eq_true rfl) ⟨(Nat.le_of_ble_eq_true rfl), (Nat.le_of_ble_eq_true rfl)⟩ ⟨(Nat.le_of_ble_eq_true rfl), (Nat.le_of_ble_eq_true rfl)⟩ d_Model_addHouse_93 ?_
              cases hf
              exact z_iret C rfl (Nat.le_of_ble_eq_true rfl) (Nat.le_of_ble_eq_true rfl) d_Model_addHouse_96
            · have hf := iff_t hf h29
              refine z_aload_n C d_Model_addHouse_77 0 rfl rfl ?_
              refine z_iconst C d_Model_addHouse_78 zki_2 ?_
              obtain ⟨r27, σ28, h26, hf⟩ := bd2_s hf
              refine z_cVi C kl_Model_62 rfl (c_Model_fail hm h26) (zm4 hm 80 rfl) rfl rfl rfl (Nat.le_of_ble_eq_true rfl) ⟨(Nat.le_of_ble_eq_true rfl), (Nat.le_of_ble_eq_true rfl)⟩ ⟨(Nat.le_of_ble_eq_true rfl), (Nat.le_of_ble_eq_true rfl)⟩ d_Model_addHouse_79 ?_
              refine z_goto (tgt := 96) C d_Model_addHouse_82 rfl ?_
              cases hf
              exact z_iret C rfl (Nat.le_of_ble_eq_true rfl) (Nat.le_of_ble_eq_true rfl) d_Model_addHouse_96
          · have hf := iff_t hf h33
            refine z_aload_n C d_Model_addHouse_59 0 rfl rfl ?_
            refine z_iconst C d_Model_addHouse_60 zki_1 ?_
            obtain ⟨r31, σ32, h30, hf⟩ := bd2_s hf
            refine z_cVi C kl_Model_62 rfl (c_Model_fail hm h30) (zm4 hm 80 rfl) rfl rfl rfl (Nat.le_of_ble_eq_true rfl) ⟨(Nat.le_of_ble_eq_true rfl), (Nat.le_of_ble_eq_true rfl)⟩ ⟨(Nat.le_of_ble_eq_true rfl), (Nat.le_of_ble_eq_true rfl)⟩ d_Model_addHouse_61 ?_
            cases hf
            exact z_iret C rfl (Nat.le_of_ble_eq_true rfl) (Nat.le_of_ble_eq_true rfl) d_Model_addHouse_64
abbrev rm_Model_setQuiet : Room := { frames := 2, cells := 0, slots := 0, locals := 43 }
theorem d_Model_setQuiet_0 : decode b_Model_setQuiet 0 = .ok (.iload_n 2, 1) := by decide +kernel
theorem d_Model_setQuiet_1 : decode b_Model_setQuiet 1 = .ok (.iconst 0, 1) := by decide +kernel
theorem d_Model_setQuiet_2 : decode b_Model_setQuiet 2 = .ok (.aload_n 0, 1) := by decide +kernel
theorem d_Model_setQuiet_3 : decode b_Model_setQuiet 3 = .ok (.getfield 7, 3) := by decide +kernel
theorem d_Model_setQuiet_6 : decode b_Model_setQuiet 6 = .ok (.iconst 5, 1) := by decide +kernel
theorem d_Model_setQuiet_7 : decode b_Model_setQuiet 7 = .ok (.iaload, 1) := by decide +kernel
theorem d_Model_setQuiet_8 : decode b_Model_setQuiet 8 = .ok (.iconst 1, 1) := by decide +kernel
theorem d_Model_setQuiet_9 : decode b_Model_setQuiet 9 = .ok (.isub, 1) := by decide +kernel
theorem d_Model_setQuiet_10 : decode b_Model_setQuiet 10 = .ok (.invokestatic 51, 3) := by decide +kernel
theorem d_Model_setQuiet_13 : decode b_Model_setQuiet 13 = .ok (.ifCond .eq 23, 3) := by decide +kernel
theorem d_Model_setQuiet_16 : decode b_Model_setQuiet 16 = .ok (.iload_n 3, 1) := by decide +kernel
theorem d_Model_setQuiet_17 : decode b_Model_setQuiet 17 = .ok (.iconst 0, 1) := by decide +kernel
theorem d_Model_setQuiet_18 : decode b_Model_setQuiet 18 = .ok (.aload_n 0, 1) := by decide +kernel
theorem d_Model_setQuiet_19 : decode b_Model_setQuiet 19 = .ok (.getfield 7, 3) := by decide +kernel
theorem d_Model_setQuiet_22 : decode b_Model_setQuiet 22 = .ok (.iconst 5, 1) := by decide +kernel
theorem d_Model_setQuiet_23 : decode b_Model_setQuiet 23 = .ok (.iaload, 1) := by decide +kernel
theorem d_Model_setQuiet_24 : decode b_Model_setQuiet 24 = .ok (.iconst 1, 1) := by decide +kernel
theorem d_Model_setQuiet_25 : decode b_Model_setQuiet 25 = .ok (.isub, 1) := by decide +kernel
theorem d_Model_setQuiet_26 : decode b_Model_setQuiet 26 = .ok (.invokestatic 51, 3) := by decide +kernel
theorem d_Model_setQuiet_29 : decode b_Model_setQuiet 29 = .ok (.ifCond .eq 7, 3) := by decide +kernel
theorem d_Model_setQuiet_32 : decode b_Model_setQuiet 32 = .ok (.iconst 1, 1) := by decide +kernel
theorem d_Model_setQuiet_33 : decode b_Model_setQuiet 33 = .ok (.goto 4, 3) := by decide +kernel
theorem d_Model_setQuiet_36 : decode b_Model_setQuiet 36 = .ok (.iconst 0, 1) := by decide +kernel
theorem d_Model_setQuiet_37 : decode b_Model_setQuiet 37 = .ok (.istore 4, 2) := by decide +kernel
theorem d_Model_setQuiet_39 : decode b_Model_setQuiet 39 = .ok (.aload_n 0, 1) := by decide +kernel
theorem d_Model_setQuiet_40 : decode b_Model_setQuiet 40 = .ok (.aload_n 0, 1) := by decide +kernel
theorem d_Model_setQuiet_41 : decode b_Model_setQuiet 41 = .ok (.iload_n 1, 1) := by decide +kernel
theorem d_Model_setQuiet_42 : decode b_Model_setQuiet 42 = .ok (.invokevirtual 188, 3) := by decide +kernel
theorem d_Model_setQuiet_45 : decode b_Model_setQuiet 45 = .ok (.ifCond .ne 7, 3) := by decide +kernel
theorem d_Model_setQuiet_48 : decode b_Model_setQuiet 48 = .ok (.iconst 1, 1) := by decide +kernel
theorem d_Model_setQuiet_49 : decode b_Model_setQuiet 49 = .ok (.goto 23, 3) := by decide +kernel
theorem d_Model_setQuiet_52 : decode b_Model_setQuiet 52 = .ok (.iload 4, 2) := by decide +kernel
theorem d_Model_setQuiet_54 : decode b_Model_setQuiet 54 = .ok (.ifCond .ne 13, 3) := by decide +kernel
theorem d_Model_setQuiet_57 : decode b_Model_setQuiet 57 = .ok (.iload_n 2, 1) := by decide +kernel
theorem d_Model_setQuiet_58 : decode b_Model_setQuiet 58 = .ok (.iconst (-1), 1) := by decide +kernel
theorem d_Model_setQuiet_59 : decode b_Model_setQuiet 59 = .ok (.if_icmp .ne 12, 3) := by decide +kernel
theorem d_Model_setQuiet_62 : decode b_Model_setQuiet 62 = .ok (.iload_n 3, 1) := by decide +kernel
theorem d_Model_setQuiet_63 : decode b_Model_setQuiet 63 = .ok (.iconst (-1), 1) := by decide +kernel
theorem d_Model_setQuiet_64 : decode b_Model_setQuiet 64 = .ok (.if_icmp .ne 7, 3) := by decide +kernel
theorem d_Model_setQuiet_67 : decode b_Model_setQuiet 67 = .ok (.iconst 0, 1) := by decide +kernel
theorem d_Model_setQuiet_68 : decode b_Model_setQuiet 68 = .ok (.goto 4, 3) := by decide +kernel
theorem d_Model_setQuiet_71 : decode b_Model_setQuiet 71 = .ok (.iconst 2, 1) := by decide +kernel
theorem d_Model_setQuiet_72 : decode b_Model_setQuiet 72 = .ok (.putfield 48, 3) := by decide +kernel
theorem d_Model_setQuiet_75 : decode b_Model_setQuiet 75 = .ok (.aload_n 0, 1) := by decide +kernel
theorem d_Model_setQuiet_76 : decode b_Model_setQuiet 76 = .ok (.getfield 48, 3) := by decide +kernel
theorem d_Model_setQuiet_79 : decode b_Model_setQuiet 79 = .ok (.ifCond .ne 18, 3) := by decide +kernel
theorem d_Model_setQuiet_82 : decode b_Model_setQuiet 82 = .ok (.aload_n 0, 1) := by decide +kernel
theorem d_Model_setQuiet_83 : decode b_Model_setQuiet 83 = .ok (.iload_n 1, 1) := by decide +kernel
theorem d_Model_setQuiet_84 : decode b_Model_setQuiet 84 = .ok (.iconst 5, 1) := by decide +kernel
theorem d_Model_setQuiet_85 : decode b_Model_setQuiet 85 = .ok (.iload_n 2, 1) := by decide +kernel
theorem d_Model_setQuiet_86 : decode b_Model_setQuiet 86 = .ok (.invokevirtual 140, 3) := by decide +kernel
theorem d_Model_setQuiet_89 : decode b_Model_setQuiet 89 = .ok (.aload_n 0, 1) := by decide +kernel
theorem d_Model_setQuiet_90 : decode b_Model_setQuiet 90 = .ok (.iload_n 1, 1) := by decide +kernel
theorem d_Model_setQuiet_91 : decode b_Model_setQuiet 91 = .ok (.bipush 6, 2) := by decide +kernel
theorem d_Model_setQuiet_93 : decode b_Model_setQuiet 93 = .ok (.iload_n 3, 1) := by decide +kernel
theorem d_Model_setQuiet_94 : decode b_Model_setQuiet 94 = .ok (.invokevirtual 140, 3) := by decide +kernel
theorem d_Model_setQuiet_97 : decode b_Model_setQuiet 97 = .ok (.return_, 1) := by decide +kernel
def B_Model_setQuiet_72 (x1 : Int32) (x2 : Int32) (x3 : Int32) (y1 : Int32) (σ : zSt) : Option (zSt) :=
  if ((zst σ 4 80 8 y1).1 4 80 8) = 0 then ((F_Model_put x1 (5 : Int32) x2 (zst σ 4 80 8 y1)).bind fun σ14 => (F_Model_put x1 (6 : Int32) x3 σ14).bind fun σ16 => some σ16) else some (zst σ 4 80 8 y1)
set_option maxHeartbeats 4000000 in
set_option maxRecDepth 100000 in
theorem w_Model_setQuiet_72 {l : Launch} {G : zLA} {p : Program} {e : Env} {s : State} {m : MethodId} {args : Array Value} {below : List Frame} {meth : Method} {c : Code} (C : zCx G p s m args meth c "VillageWavesModel" b_Model_setQuiet 5 none) (hm : zml G) {x1 : Int32} {x2 : Int32} {x3 : Int32} {y1 : Int32} {σ : zSt} {σ' : zSt} (hf : B_Model_setQuiet_72 x1 x2 x3 y1 σ = some σ') : zWV G p l e rm_Model_setQuiet s m args below meth c 5 0 0 (zQ G below args s rm_Model_setQuiet none σ') 72 [(0, .ref (zad G 4 80)), (1, .int x1), (2, .int x2), (3, .int x3)] [.int y1, .ref (zad G 4 80)] σ := by
  rw [B_Model_setQuiet_72] at hf
  refine pf_Model_48 C (zm4 hm 80 rfl) rfl (Nat.le_of_ble_eq_true rfl) rfl d_Model_setQuiet_72 ?_
  refine z_aload_n C d_Model_setQuiet_75 0 rfl rfl ?_
  refine gf_Model_48 C (zm4 hm 80 rfl) rfl rfl d_Model_setQuiet_76 ?_
  refine z_if_ne (tgt := 97) C d_Model_setQuiet_79 rfl (fun h17 => ?_) (fun h17 => ?_)
  · have hf := iff_f hf h17
    cases hf
    exact z_vret C rfl (Nat.le_of_ble_eq_true rfl) (Nat.le_of_ble_eq_true rfl) d_Model_setQuiet_97
  · have hf := iff_t hf h17
    refine z_aload_n C d_Model_setQuiet_82 0 rfl rfl ?_
    refine z_iload_n C d_Model_setQuiet_83 1 rfl rfl ?_
    refine z_iconst C d_Model_setQuiet_84 zki_5 ?_
    refine z_iload_n C d_Model_setQuiet_85 2 rfl rfl ?_
    obtain ⟨σ14, h13, hf⟩ := bd_s hf
    refine z_cVv C kl_Model_140 rfl (c_Model_put hm h13) (zm4 hm 80 rfl) rfl rfl rfl (Nat.le_of_ble_eq_true rfl) ⟨(Nat.le_of_ble_eq_true rfl), (Nat.le_of_ble_eq_true rfl)⟩ ⟨(Nat.le_of_ble_eq_true rfl), (Nat.le_of_ble_eq_true rfl)⟩ d_Model_setQuiet_86 ?_
    refine z_aload_n C d_Model_setQuiet_89 0 rfl rfl ?_
    refine z_iload_n C d_Model_setQuiet_90 1 rfl rfl ?_
    refine z_bipush C d_Model_setQuiet_91 zkb_6 ?_
    refine z_iload_n C d_Model_setQuiet_93 3 rfl rfl ?_
    obtain ⟨σ16, h15, hf⟩ := bd_s hf
    refine z_cVv C kl_Model_140 rfl (c_Model_put hm h15) (zm4 hm 80 rfl) rfl rfl rfl (Nat.le_of_ble_eq_true rfl) ⟨(Nat.le_of_ble_eq_true rfl), (Nat.le_of_ble_eq_true rfl)⟩ ⟨(Nat.le_of_ble_eq_true rfl), (Nat.le_of_ble_eq_true rfl)⟩ d_Model_setQuiet_94 ?_
    cases hf
    exact z_vret C rfl (Nat.le_of_ble_eq_true rfl) (Nat.le_of_ble_eq_true rfl) d_Model_setQuiet_97
def B_Model_setQuiet_37 (x1 : Int32) (x2 : Int32) (x3 : Int32) (y0 : Int32) (σ : zSt) : Option (zSt) :=
  (F_Model_isHouse x1 σ).bind fun r8 => if r8 = 0 then B_Model_setQuiet_72 x1 x2 x3 (1 : Int32) σ else (if y0 = 0 then (if x2 = (-1 : Int32) then (if x3 = (-1 : Int32) then B_Model_setQuiet_72 x1 x2 x3 (0 : Int32) σ else B_Model_setQuiet_72 x1 x2 x3 (2 : Int32) σ) else B_Model_setQuiet_72 x1 x2 x3 (2 : Int32) σ) else B_Model_setQuiet_72 x1 x2 x3 (0 : Int32) σ)
set_option maxHeartbeats 4000000 in
set_option maxRecDepth 100000 in
theorem w_Model_setQuiet_37 {l : Launch} {G : zLA} {p : Program} {e : Env} {s : State} {m : MethodId} {args : Array Value} {below : List Frame} {meth : Method} {c : Code} (C : zCx G p s m args meth c "VillageWavesModel" b_Model_setQuiet 5 none) (hm : zml G) {x1 : Int32} {x2 : Int32} {x3 : Int32} {y0 : Int32} {σ : zSt} {σ' : zSt} (hf : B_Model_setQuiet_37 x1 x2 x3 y0 σ = some σ') : zWV G p l e rm_Model_setQuiet s m args below meth c 5 0 0 (zQ G below args s rm_Model_setQuiet none σ') 37 [(0, .ref (zad G 4 80)), (1, .int x1), (2, .int x2), (3, .int x3)] [.int y0] σ := by
  rw [B_Model_setQuiet_37] at hf
  refine z_istore C d_Model_setQuiet_37 (by decide) ?_
  refine z_aload_n C d_Model_setQuiet_39 1 rfl rfl ?_
  refine z_aload_n C d_Model_setQuiet_40 1 rfl rfl ?_
  refine z_iload_n C d_Model_setQuiet_41 2 rfl rfl ?_
  obtain ⟨r8, h7, hf⟩ := bd_s hf
  refine z_cVi C kl_Model_188 rfl (c_Model_isHouse hm h7) (zm4 hm 80 rfl) rfl rfl rfl (Nat.le_of_ble_eq_true rfl) ⟨(Nat.le_of_ble_eq_true rfl), (Nat.le_of_ble_eq_true rfl)⟩ ⟨(Nat.le_of_ble_eq_true rfl), (Nat.le_of_ble_eq_true rfl)⟩ d_Model_setQuiet_42 ?_
  refine z_if_ne (tgt := 52) C d_Model_setQuiet_45 rfl (fun h12 => ?_) (fun h12 => ?_)
  · have hf := iff_f hf h12
    refine z_iload C d_Model_setQuiet_52 0 rfl ?_
    refine z_if_ne (tgt := 67) C d_Model_setQuiet_54 rfl (fun h11 => ?_) (fun h11 => ?_)
    · have hf := iff_f hf h11
      refine z_iconst C d_Model_setQuiet_67 zki_0 ?_
      refine z_goto (tgt := 72) C d_Model_setQuiet_68 rfl ?_
      exact z_sub [1, 2, 3, 4] rfl (w_Model_setQuiet_72 C hm hf)
    · have hf := iff_t hf h11
      refine z_iload_n C d_Model_setQuiet_57 3 rfl rfl ?_
      refine z_iconst C d_Model_setQuiet_58 zki_m1 ?_
      refine z_icmp_ne (tgt := 71) C d_Model_setQuiet_59 rfl (fun h10 => ?_) (fun h10 => ?_)
      · have hf := iff_f hf h10
        refine z_iconst C d_Model_setQuiet_71 zki_2 ?_
        exact z_sub [1, 2, 3, 4] rfl (w_Model_setQuiet_72 C hm hf)
      · have hf := iff_t hf h10
        refine z_iload_n C d_Model_setQuiet_62 4 rfl rfl ?_
        refine z_iconst C d_Model_setQuiet_63 zki_m1 ?_
        refine z_icmp_ne (tgt := 71) C d_Model_setQuiet_64 rfl (fun h9 => ?_) (fun h9 => ?_)
        · have hf := iff_f hf h9
          refine z_iconst C d_Model_setQuiet_71 zki_2 ?_
          exact z_sub [1, 2, 3, 4] rfl (w_Model_setQuiet_72 C hm hf)
        · have hf := iff_t hf h9
          refine z_iconst C d_Model_setQuiet_67 zki_0 ?_
          refine z_goto (tgt := 72) C d_Model_setQuiet_68 rfl ?_
          exact z_sub [1, 2, 3, 4] rfl (w_Model_setQuiet_72 C hm hf)
  · have hf := iff_t hf h12
    refine z_iconst C d_Model_setQuiet_48 zki_1 ?_
    refine z_goto (tgt := 72) C d_Model_setQuiet_49 rfl ?_
    exact z_sub [1, 2, 3, 4] rfl (w_Model_setQuiet_72 C hm hf)
def F_Model_setQuiet (a0 : Int32) (a1 : Int32) (a2 : Int32) (σ : zSt) : Option (zSt) :=
  (F_Model_isBetween a1 (0 : Int32) ((σ.1 4 81 5) - (1 : Int32)) σ).bind fun r2 => if r2 = 0 then B_Model_setQuiet_37 a0 a1 a2 (0 : Int32) σ else ((F_Model_isBetween a2 (0 : Int32) ((σ.1 4 81 5) - (1 : Int32)) σ).bind fun r4 => if r4 = 0 then B_Model_setQuiet_37 a0 a1 a2 (0 : Int32) σ else B_Model_setQuiet_37 a0 a1 a2 (1 : Int32) σ)
set_option maxHeartbeats 4000000 in
set_option maxRecDepth 100000 in
theorem c_Model_setQuiet {l : Launch} {G : zLA} (hm : zml G) {a0 : Int32} {a1 : Int32} {a2 : Int32} {σ : zSt} {σ' : zSt} (hf : F_Model_setQuiet a0 a1 a2 σ = some σ') : zM l G y_Model_setQuiet (zws y_Model_setQuiet b_Model_setQuiet 5 none) rm_Model_setQuiet [.ref (zad G 4 80), .int a0, .int a1, .int a2] σ none σ' := by
  refine z_ofM (own := "VillageWavesModel") (lv := [(0, .ref (zad G 4 80)), (1, .int a0), (2, .int a1), (3, .int a2)]) (by decide +kernel) rfl rfl (Nat.le_of_ble_eq_true rfl) (fun p e s m args below meth c C => ?_)
  rw [F_Model_setQuiet] at hf
  refine z_iload_n C d_Model_setQuiet_0 2 rfl rfl ?_
  refine z_iconst C d_Model_setQuiet_1 zki_0 ?_
  refine z_aload_n C d_Model_setQuiet_2 0 rfl rfl ?_
  refine gf_Model_7 C (zm4 hm 80 rfl) rfl rfl d_Model_setQuiet_3 ?_
  refine z_iconst C d_Model_setQuiet_6 zki_5 ?_
  refine z_iald C (zm4 hm 81 rfl) rfl (inb_in (by decide)) zc_5 d_Model_setQuiet_7 ?_
  refine z_iconst C d_Model_setQuiet_8 zki_1 ?_
  refine z_isub C d_Model_setQuiet_9 ?_
  obtain ⟨r2, h1, hf⟩ := bd_s hf
  refine z_cSi C kl_Model_51 (c_Model_isBetween h1) rfl rfl (Nat.le_of_ble_eq_true rfl) ⟨(Nat.le_of_ble_eq_true rfl), (Nat.le_of_ble_eq_true rfl)⟩ ⟨(Nat.le_of_ble_eq_true rfl), (Nat.le_of_ble_eq_true rfl)⟩ d_Model_setQuiet_10 ?_
  refine z_if_eq (tgt := 36) C d_Model_setQuiet_13 rfl (fun h6 => ?_) (fun h6 => ?_)
  · have hf := iff_t hf h6
    refine z_iconst C d_Model_setQuiet_36 zki_0 ?_
    exact z_sub [0, 1, 2, 3] rfl (w_Model_setQuiet_37 C hm hf)
  · have hf := iff_f hf h6
    refine z_iload_n C d_Model_setQuiet_16 3 rfl rfl ?_
    refine z_iconst C d_Model_setQuiet_17 zki_0 ?_
    refine z_aload_n C d_Model_setQuiet_18 0 rfl rfl ?_
    refine gf_Model_7 C (zm4 hm 80 rfl) rfl rfl d_Model_setQuiet_19 ?_
    refine z_iconst C d_Model_setQuiet_22 zki_5 ?_
    refine z_iald C (zm4 hm 81 rfl) rfl (inb_in (by decide)) zc_5 d_Model_setQuiet_23 ?_
    refine z_iconst C d_Model_setQuiet_24 zki_1 ?_
    refine z_isub C d_Model_setQuiet_25 ?_
    obtain ⟨r4, h3, hf⟩ := bd_s hf
    refine z_cSi C kl_Model_51 (c_Model_isBetween h3) rfl rfl (Nat.le_of_ble_eq_true rfl) ⟨(Nat.le_of_ble_eq_true rfl), (Nat.le_of_ble_eq_true rfl)⟩ ⟨(Nat.le_of_ble_eq_true rfl), (Nat.le_of_ble_eq_true rfl)⟩ d_Model_setQuiet_26 ?_
    refine z_if_eq (tgt := 36) C d_Model_setQuiet_29 rfl (fun h5 => ?_) (fun h5 => ?_)
    · have hf := iff_t hf h5
      refine z_iconst C d_Model_setQuiet_36 zki_0 ?_
      exact z_sub [0, 1, 2, 3] rfl (w_Model_setQuiet_37 C hm hf)
    · have hf := iff_f hf h5
      refine z_iconst C d_Model_setQuiet_32 zki_1 ?_
      refine z_goto (tgt := 37) C d_Model_setQuiet_33 rfl ?_
      exact z_sub [0, 1, 2, 3] rfl (w_Model_setQuiet_37 C hm hf)
abbrev rm_Model_charge : Room := { frames := 2, cells := 0, slots := 0, locals := 43 }
theorem d_Model_charge_0 : decode b_Model_charge 0 = .ok (.aload_n 0, 1) := by decide +kernel
theorem d_Model_charge_1 : decode b_Model_charge 1 = .ok (.iconst 0, 1) := by decide +kernel
theorem d_Model_charge_2 : decode b_Model_charge 2 = .ok (.putfield 48, 3) := by decide +kernel
theorem d_Model_charge_5 : decode b_Model_charge 5 = .ok (.aload_n 0, 1) := by decide +kernel
theorem d_Model_charge_6 : decode b_Model_charge 6 = .ok (.iload_n 1, 1) := by decide +kernel
theorem d_Model_charge_7 : decode b_Model_charge 7 = .ok (.invokevirtual 188, 3) := by decide +kernel
theorem d_Model_charge_10 : decode b_Model_charge 10 = .ok (.ifCond .ne 9, 3) := by decide +kernel
theorem d_Model_charge_13 : decode b_Model_charge 13 = .ok (.aload_n 0, 1) := by decide +kernel
theorem d_Model_charge_14 : decode b_Model_charge 14 = .ok (.iconst 1, 1) := by decide +kernel
theorem d_Model_charge_15 : decode b_Model_charge 15 = .ok (.invokevirtual 62, 3) := by decide +kernel
theorem d_Model_charge_18 : decode b_Model_charge 18 = .ok (.ireturn, 1) := by decide +kernel
theorem d_Model_charge_19 : decode b_Model_charge 19 = .ok (.iload_n 2, 1) := by decide +kernel
theorem d_Model_charge_20 : decode b_Model_charge 20 = .ok (.sipush (-999), 3) := by decide +kernel
theorem d_Model_charge_23 : decode b_Model_charge 23 = .ok (.sipush 999, 3) := by decide +kernel
theorem d_Model_charge_26 : decode b_Model_charge 26 = .ok (.invokestatic 51, 3) := by decide +kernel
theorem d_Model_charge_29 : decode b_Model_charge 29 = .ok (.ifCond .ne 9, 3) := by decide +kernel
theorem d_Model_charge_32 : decode b_Model_charge 32 = .ok (.aload_n 0, 1) := by decide +kernel
theorem d_Model_charge_33 : decode b_Model_charge 33 = .ok (.iconst 2, 1) := by decide +kernel
theorem d_Model_charge_34 : decode b_Model_charge 34 = .ok (.invokevirtual 62, 3) := by decide +kernel
theorem d_Model_charge_37 : decode b_Model_charge 37 = .ok (.ireturn, 1) := by decide +kernel
theorem d_Model_charge_38 : decode b_Model_charge 38 = .ok (.aload_n 0, 1) := by decide +kernel
theorem d_Model_charge_39 : decode b_Model_charge 39 = .ok (.iload_n 1, 1) := by decide +kernel
theorem d_Model_charge_40 : decode b_Model_charge 40 = .ok (.iconst 3, 1) := by decide +kernel
theorem d_Model_charge_41 : decode b_Model_charge 41 = .ok (.iconst 0, 1) := by decide +kernel
theorem d_Model_charge_42 : decode b_Model_charge 42 = .ok (.sipush 999, 3) := by decide +kernel
theorem d_Model_charge_45 : decode b_Model_charge 45 = .ok (.aload_n 0, 1) := by decide +kernel
theorem d_Model_charge_46 : decode b_Model_charge 46 = .ok (.iload_n 1, 1) := by decide +kernel
theorem d_Model_charge_47 : decode b_Model_charge 47 = .ok (.iconst 3, 1) := by decide +kernel
theorem d_Model_charge_48 : decode b_Model_charge 48 = .ok (.invokevirtual 191, 3) := by decide +kernel
theorem d_Model_charge_51 : decode b_Model_charge 51 = .ok (.iload_n 2, 1) := by decide +kernel
theorem d_Model_charge_52 : decode b_Model_charge 52 = .ok (.iadd, 1) := by decide +kernel
theorem d_Model_charge_53 : decode b_Model_charge 53 = .ok (.invokestatic 194, 3) := by decide +kernel
theorem d_Model_charge_56 : decode b_Model_charge 56 = .ok (.invokestatic 199, 3) := by decide +kernel
theorem d_Model_charge_59 : decode b_Model_charge 59 = .ok (.invokevirtual 140, 3) := by decide +kernel
theorem d_Model_charge_62 : decode b_Model_charge 62 = .ok (.aload_n 0, 1) := by decide +kernel
theorem d_Model_charge_63 : decode b_Model_charge 63 = .ok (.iload_n 1, 1) := by decide +kernel
theorem d_Model_charge_64 : decode b_Model_charge 64 = .ok (.iconst 3, 1) := by decide +kernel
theorem d_Model_charge_65 : decode b_Model_charge 65 = .ok (.invokevirtual 191, 3) := by decide +kernel
theorem d_Model_charge_68 : decode b_Model_charge 68 = .ok (.ireturn, 1) := by decide +kernel
def F_Model_charge (a0 : Int32) (a1 : Int32) (σ : zSt) : Option (Int32 × zSt) :=
  (F_Model_isHouse a0 (zst σ 4 80 8 (0 : Int32))).bind fun r2 => if r2 = 0 then (bd2 (F_Model_fail (1 : Int32) (zst σ 4 80 8 (0 : Int32))) fun r16 σ17 => some (r16, σ17)) else ((F_Model_isBetween a1 (-999 : Int32) (999 : Int32) (zst σ 4 80 8 (0 : Int32))).bind fun r4 => if r4 = 0 then (bd2 (F_Model_fail (2 : Int32) (zst σ 4 80 8 (0 : Int32))) fun r12 σ13 => some (r12, σ13)) else ((F_Model_of a0 (3 : Int32) (zst σ 4 80 8 (0 : Int32))).bind fun r6 => (F_Model_put a0 (3 : Int32) (if (0 : Int32) < (if (r6 + a1) < (999 : Int32) then (r6 + a1) else (999 : Int32)) then (if (r6 + a1) < (999 : Int32) then (r6 + a1) else (999 : Int32)) else (0 : Int32)) (zst σ 4 80 8 (0 : Int32))).bind fun σ8 => (F_Model_of a0 (3 : Int32) σ8).bind fun r10 => some (r10, σ8)))
set_option maxHeartbeats 4000000 in
set_option maxRecDepth 100000 in
theorem c_Model_charge {l : Launch} {G : zLA} (hm : zml G) {a0 : Int32} {a1 : Int32} {σ : zSt} {r : Int32} {σ' : zSt} (hf : F_Model_charge a0 a1 σ = some (r, σ')) : zM l G y_Model_charge (zws y_Model_charge b_Model_charge 3 (some .int)) rm_Model_charge [.ref (zad G 4 80), .int a0, .int a1] σ (some (.int r)) σ' := by
  refine z_ofM (own := "VillageWavesModel") (lv := [(0, .ref (zad G 4 80)), (1, .int a0), (2, .int a1)]) (by decide +kernel) rfl rfl (Nat.le_of_ble_eq_true rfl) (fun p e s m args below meth c C => ?_)
  rw [F_Model_charge] at hf
  refine z_aload_n C d_Model_charge_0 0 rfl rfl ?_
  refine z_iconst C d_Model_charge_1 zki_0 ?_
  refine pf_Model_48 C (zm4 hm 80 rfl) rfl (Nat.le_of_ble_eq_true rfl) rfl d_Model_charge_2 ?_
  refine z_aload_n C d_Model_charge_5 0 rfl rfl ?_
  refine z_iload_n C d_Model_charge_6 1 rfl rfl ?_
  obtain ⟨r2, h1, hf⟩ := bd_s hf
  refine z_cVi C kl_Model_188 rfl (c_Model_isHouse hm h1) (zm4 hm 80 rfl) rfl rfl rfl (Nat.le_of_ble_eq_true rfl) ⟨(Nat.le_of_ble_eq_true rfl), (Nat.le_of_ble_eq_true rfl)⟩ ⟨(Nat.le_of_ble_eq_true rfl), (Nat.le_of_ble_eq_true rfl)⟩ d_Model_charge_7 ?_
  refine z_if_ne (tgt := 19) C d_Model_charge_10 rfl (fun h18 => ?_) (fun h18 => ?_)
  · have hf := iff_f hf h18
    refine z_iload_n C d_Model_charge_19 2 rfl rfl ?_
    refine z_sipush C d_Model_charge_20 zks_m999 ?_
    refine z_sipush C d_Model_charge_23 zks_999 ?_
    obtain ⟨r4, h3, hf⟩ := bd_s hf
    refine z_cSi C kl_Model_51 (c_Model_isBetween h3) rfl rfl (Nat.le_of_ble_eq_true rfl) ⟨(Nat.le_of_ble_eq_true rfl), (Nat.le_of_ble_eq_true rfl)⟩ ⟨(Nat.le_of_ble_eq_true rfl), (Nat.le_of_ble_eq_true rfl)⟩ d_Model_charge_26 ?_
    refine z_if_ne (tgt := 38) C d_Model_charge_29 rfl (fun h14 => ?_) (fun h14 => ?_)
    · have hf := iff_f hf h14
      refine z_aload_n C d_Model_charge_38 0 rfl rfl ?_
      refine z_iload_n C d_Model_charge_39 1 rfl rfl ?_
      refine z_iconst C d_Model_charge_40 zki_3 ?_
      refine z_iconst C d_Model_charge_41 zki_0 ?_
      refine z_sipush C d_Model_charge_42 zks_999 ?_
      refine z_aload_n C d_Model_charge_45 0 rfl rfl ?_
      refine z_iload_n C d_Model_charge_46 1 rfl rfl ?_
      refine z_iconst C d_Model_charge_47 zki_3 ?_
      obtain ⟨r6, h5, hf⟩ := bd_s hf
      refine z_cVi C kl_Model_191 rfl (c_Model_of hm h5) (zm4 hm 80 rfl) rfl rfl rfl (Nat.le_of_ble_eq_true rfl) ⟨(Nat.le_of_ble_eq_true rfl), (Nat.le_of_ble_eq_true rfl)⟩ ⟨(Nat.le_of_ble_eq_true rfl), (Nat.le_of_ble_eq_true rfl)⟩ d_Model_charge_48 ?_
      refine z_iload_n C d_Model_charge_51 2 rfl rfl ?_
      refine z_iadd C d_Model_charge_52 ?_
      refine z_mmin C zq1496 rfl (Nat.le_of_ble_eq_true rfl) (Nat.le_of_ble_eq_true rfl) (Nat.le_of_ble_eq_true rfl) (Nat.le_of_ble_eq_true rfl) (Nat.le_of_ble_eq_true rfl) d_Model_charge_53 ?_
      refine z_mmax C zq1497 rfl (Nat.le_of_ble_eq_true rfl) (Nat.le_of_ble_eq_true rfl) (Nat.le_of_ble_eq_true rfl) (Nat.le_of_ble_eq_true rfl) (Nat.le_of_ble_eq_true rfl) d_Model_charge_56 ?_
      obtain ⟨σ8, h7, hf⟩ := bd_s hf
      refine z_cVv C kl_Model_140 rfl (c_Model_put hm h7) (zm4 hm 80 rfl) rfl rfl rfl (Nat.le_of_ble_eq_true rfl) ⟨(Nat.le_of_ble_eq_true rfl), (Nat.le_of_ble_eq_true rfl)⟩ ⟨(Nat.le_of_ble_eq_true rfl), (Nat.le_of_ble_eq_true rfl)⟩ d_Model_charge_59 ?_
      refine z_aload_n C d_Model_charge_62 0 rfl rfl ?_
      refine z_iload_n C d_Model_charge_63 1 rfl rfl ?_
      refine z_iconst C d_Model_charge_64 zki_3 ?_
      obtain ⟨r10, h9, hf⟩ := bd_s hf
      refine z_cVi C kl_Model_191 rfl (c_Model_of hm h9) (zm4 hm 80 rfl) rfl rfl rfl (Nat.le_of_ble_eq_true rfl) ⟨(Nat.le_of_ble_eq_true rfl), (Nat.le_of_ble_eq_true rfl)⟩ ⟨(Nat.le_of_ble_eq_true rfl), (Nat.le_of_ble_eq_true rfl)⟩ d_Model_charge_65 ?_
      cases hf
      exact z_iret C rfl (Nat.le_of_ble_eq_true rfl) (Nat.le_of_ble_eq_true rfl) d_Model_charge_68
    · have hf := iff_t hf h14
      refine z_aload_n C d_Model_charge_32 0 rfl rfl ?_
      refine z_iconst C d_Model_charge_33 zki_2 ?_
      obtain ⟨r12, σ13, h11, hf⟩ := bd2_s hf
      refine z_cVi C kl_Model_62 rfl (c_Model_fail hm h11) (zm4 hm 80 rfl) rfl rfl rfl (Nat.le_of_ble_eq_true rfl) ⟨(Nat.le_of_ble_eq_true rfl), (Nat.le_of_ble_eq_true rfl)⟩ ⟨(Nat.le_of_ble_eq_true rfl), (Nat.le_of_ble_eq_true rfl)⟩ d_Model_charge_34 ?_
      cases hf
      exact z_iret C rfl (Nat.le_of_ble_eq_true rfl) (Nat.le_of_ble_eq_true rfl) d_Model_charge_37
  · have hf := iff_t hf h18
    refine z_aload_n C d_Model_charge_13 0 rfl rfl ?_
    refine z_iconst C d_Model_charge_14 zki_1 ?_
    obtain ⟨r16, σ17, h15, hf⟩ := bd2_s hf
    refine z_cVi C kl_Model_62 rfl (c_Model_fail hm h15) (zm4 hm 80 rfl) rfl rfl rfl (Nat.le_of_ble_eq_true rfl) ⟨(Nat.le_of_ble_eq_true rfl), (Nat.le_of_ble_eq_true rfl)⟩ ⟨(Nat.le_of_ble_eq_true rfl), (Nat.le_of_ble_eq_true rfl)⟩ d_Model_charge_15 ?_
    cases hf
    exact z_iret C rfl (Nat.le_of_ble_eq_true rfl) (Nat.le_of_ble_eq_true rfl) d_Model_charge_18
abbrev rm_Model_set : Room := { frames := 1, cells := 0, slots := 0, locals := 22 }
theorem d_Model_set_0 : decode b_Model_set 0 = .ok (.aload_n 0, 1) := by decide +kernel
theorem d_Model_set_1 : decode b_Model_set 1 = .ok (.iconst 0, 1) := by decide +kernel
theorem d_Model_set_2 : decode b_Model_set 2 = .ok (.putfield 48, 3) := by decide +kernel
theorem d_Model_set_5 : decode b_Model_set 5 = .ok (.iload_n 1, 1) := by decide +kernel
theorem d_Model_set_6 : decode b_Model_set 6 = .ok (.iconst 0, 1) := by decide +kernel
theorem d_Model_set_7 : decode b_Model_set 7 = .ok (.iconst 4, 1) := by decide +kernel
theorem d_Model_set_8 : decode b_Model_set 8 = .ok (.invokestatic 51, 3) := by decide +kernel
theorem d_Model_set_11 : decode b_Model_set 11 = .ok (.ifCond .eq 22, 3) := by decide +kernel
theorem d_Model_set_14 : decode b_Model_set 14 = .ok (.iload_n 2, 1) := by decide +kernel
theorem d_Model_set_15 : decode b_Model_set 15 = .ok (.aload_n 0, 1) := by decide +kernel
theorem d_Model_set_16 : decode b_Model_set 16 = .ok (.getfield 29, 3) := by decide +kernel
theorem d_Model_set_19 : decode b_Model_set 19 = .ok (.iload_n 1, 1) := by decide +kernel
theorem d_Model_set_20 : decode b_Model_set 20 = .ok (.iaload, 1) := by decide +kernel
theorem d_Model_set_21 : decode b_Model_set 21 = .ok (.aload_n 0, 1) := by decide +kernel
theorem d_Model_set_22 : decode b_Model_set 22 = .ok (.getfield 32, 3) := by decide +kernel
theorem d_Model_set_25 : decode b_Model_set 25 = .ok (.iload_n 1, 1) := by decide +kernel
theorem d_Model_set_26 : decode b_Model_set 26 = .ok (.iaload, 1) := by decide +kernel
theorem d_Model_set_27 : decode b_Model_set 27 = .ok (.invokestatic 51, 3) := by decide +kernel
theorem d_Model_set_30 : decode b_Model_set 30 = .ok (.ifCond .ne 9, 3) := by decide +kernel
theorem d_Model_set_33 : decode b_Model_set 33 = .ok (.aload_n 0, 1) := by decide +kernel
theorem d_Model_set_34 : decode b_Model_set 34 = .ok (.iconst 1, 1) := by decide +kernel
theorem d_Model_set_35 : decode b_Model_set 35 = .ok (.invokevirtual 62, 3) := by decide +kernel
theorem d_Model_set_38 : decode b_Model_set 38 = .ok (.ireturn, 1) := by decide +kernel
theorem d_Model_set_39 : decode b_Model_set 39 = .ok (.aload_n 0, 1) := by decide +kernel
theorem d_Model_set_40 : decode b_Model_set 40 = .ok (.getfield 7, 3) := by decide +kernel
theorem d_Model_set_43 : decode b_Model_set 43 = .ok (.iload_n 1, 1) := by decide +kernel
theorem d_Model_set_44 : decode b_Model_set 44 = .ok (.iaload, 1) := by decide +kernel
theorem d_Model_set_45 : decode b_Model_set 45 = .ok (.istore_n 3, 1) := by decide +kernel
theorem d_Model_set_46 : decode b_Model_set 46 = .ok (.aload_n 0, 1) := by decide +kernel
theorem d_Model_set_47 : decode b_Model_set 47 = .ok (.getfield 7, 3) := by decide +kernel
theorem d_Model_set_50 : decode b_Model_set 50 = .ok (.iload_n 1, 1) := by decide +kernel
theorem d_Model_set_51 : decode b_Model_set 51 = .ok (.iload_n 2, 1) := by decide +kernel
theorem d_Model_set_52 : decode b_Model_set 52 = .ok (.iastore, 1) := by decide +kernel
theorem d_Model_set_53 : decode b_Model_set 53 = .ok (.iload_n 3, 1) := by decide +kernel
theorem d_Model_set_54 : decode b_Model_set 54 = .ok (.ireturn, 1) := by decide +kernel
def F_Model_set (a0 : Int32) (a1 : Int32) (σ : zSt) : Option (Int32 × zSt) :=
  (F_Model_isBetween a0 (0 : Int32) (4 : Int32) (zst σ 4 80 8 (0 : Int32))).bind fun r2 => if r2 = 0 then (bd2 (F_Model_fail (1 : Int32) (zst σ 4 80 8 (0 : Int32))) fun r4 σ5 => some (r4, σ5)) else (if inb a0 5 = true then (if inb a0 5 = true then ((F_Model_isBetween a1 ((zst σ 4 80 8 (0 : Int32)).1 4 87 a0.toNatClampNeg) ((zst σ 4 80 8 (0 : Int32)).1 4 88 a0.toNatClampNeg) (zst σ 4 80 8 (0 : Int32))).bind fun r7 => if r7 = 0 then (bd2 (F_Model_fail (1 : Int32) (zst σ 4 80 8 (0 : Int32))) fun r11 σ12 => some (r11, σ12)) else (if inb a0 2592 = true then (if inb a0 2592 = true then some (((zst σ 4 80 8 (0 : Int32)).1 4 81 a0.toNatClampNeg), (zst (zst σ 4 80 8 (0 : Int32)) 4 81 a0.toNatClampNeg a1)) else none) else none)) else none) else none)
set_option maxHeartbeats 4000000 in
set_option maxRecDepth 100000 in
theorem c_Model_set {l : Launch} {G : zLA} (hm : zml G) {a0 : Int32} {a1 : Int32} {σ : zSt} {r : Int32} {σ' : zSt} (hf : F_Model_set a0 a1 σ = some (r, σ')) : zM l G y_Model_set (zws y_Model_set b_Model_set 4 (some .int)) rm_Model_set [.ref (zad G 4 80), .int a0, .int a1] σ (some (.int r)) σ' := by
  refine z_ofM (own := "VillageWavesModel") (lv := [(0, .ref (zad G 4 80)), (1, .int a0), (2, .int a1)]) (by decide +kernel) rfl rfl (Nat.le_of_ble_eq_true rfl) (fun p e s m args below meth c C => ?_)
  rw [F_Model_set] at hf
  refine z_aload_n C d_Model_set_0 0 rfl rfl ?_
  refine z_iconst C d_Model_set_1 zki_0 ?_
  refine pf_Model_48 C (zm4 hm 80 rfl) rfl (Nat.le_of_ble_eq_true rfl) rfl d_Model_set_2 ?_
  refine z_iload_n C d_Model_set_5 1 rfl rfl ?_
  refine z_iconst C d_Model_set_6 zki_0 ?_
  refine z_iconst C d_Model_set_7 zki_4 ?_
  obtain ⟨r2, h1, hf⟩ := bd_s hf
  refine z_cSi C kl_Model_51 (c_Model_isBetween h1) rfl rfl (Nat.le_of_ble_eq_true rfl) ⟨(Nat.le_of_ble_eq_true rfl), (Nat.le_of_ble_eq_true rfl)⟩ ⟨(Nat.le_of_ble_eq_true rfl), (Nat.le_of_ble_eq_true rfl)⟩ d_Model_set_8 ?_
  refine z_if_eq (tgt := 33) C d_Model_set_11 rfl (fun h16 => ?_) (fun h16 => ?_)
  · have hf := iff_t hf h16
    refine z_aload_n C d_Model_set_33 0 rfl rfl ?_
    refine z_iconst C d_Model_set_34 zki_1 ?_
    obtain ⟨r4, σ5, h3, hf⟩ := bd2_s hf
    refine z_cVi C kl_Model_62 rfl (c_Model_fail hm h3) (zm4 hm 80 rfl) rfl rfl rfl (Nat.le_of_ble_eq_true rfl) ⟨(Nat.le_of_ble_eq_true rfl), (Nat.le_of_ble_eq_true rfl)⟩ ⟨(Nat.le_of_ble_eq_true rfl), (Nat.le_of_ble_eq_true rfl)⟩ d_Model_set_35 ?_
    cases hf
    exact z_iret C rfl (Nat.le_of_ble_eq_true rfl) (Nat.le_of_ble_eq_true rfl) d_Model_set_38
  · have hf := iff_f hf h16
    refine z_iload_n C d_Model_set_14 2 rfl rfl ?_
    refine z_aload_n C d_Model_set_15 0 rfl rfl ?_
    refine gf_Model_29 C (zm4 hm 80 rfl) rfl rfl d_Model_set_16 ?_
    refine z_iload_n C d_Model_set_19 1 rfl rfl ?_
    obtain ⟨h15, hf⟩ := iff_g hf
    refine z_iald C (zm4 hm 87 rfl) rfl (inb_in h15) rfl d_Model_set_20 ?_
    refine z_aload_n C d_Model_set_21 0 rfl rfl ?_
    refine gf_Model_32 C (zm4 hm 80 rfl) rfl rfl d_Model_set_22 ?_
    refine z_iload_n C d_Model_set_25 1 rfl rfl ?_
    obtain ⟨h14, hf⟩ := iff_g hf
    refine z_iald C (zm4 hm 88 rfl) rfl (inb_in h14) rfl d_Model_set_26 ?_
    obtain ⟨r7, h6, hf⟩ := bd_s hf
    refine z_cSi C kl_Model_51 (c_Model_isBetween h6) rfl rfl (Nat.le_of_ble_eq_true rfl) ⟨(Nat.le_of_ble_eq_true rfl), (Nat.le_of_ble_eq_true rfl)⟩ ⟨(Nat.le_of_ble_eq_true rfl), (Nat.le_of_ble_eq_true rfl)⟩ d_Model_set_27 ?_
    refine z_if_ne (tgt := 39) C d_Model_set_30 rfl (fun h13 => ?_) (fun h13 => ?_)
    · have hf := iff_f hf h13
      refine z_aload_n C d_Model_set_39 0 rfl rfl ?_
      refine gf_Model_7 C (zm4 hm 80 rfl) rfl rfl d_Model_set_40 ?_
      refine z_iload_n C d_Model_set_43 1 rfl rfl ?_
      obtain ⟨h9, hf⟩ := iff_g hf
      refine z_iald C (zm4 hm 81 rfl) rfl (inb_in h9) rfl d_Model_set_44 ?_
      refine z_istore_n C d_Model_set_45 rfl (by decide) ?_
      refine z_aload_n C d_Model_set_46 1 rfl rfl ?_
      refine gf_Model_7 C (zm4 hm 80 rfl) rfl rfl d_Model_set_47 ?_
      refine z_iload_n C d_Model_set_50 2 rfl rfl ?_
      refine z_iload_n C d_Model_set_51 3 rfl rfl ?_
      obtain ⟨h8, hf⟩ := iff_g hf
      refine z_iast C (zm4 hm 81 rfl) (fun _ _ _ => rfl) (inb_in h8) rfl d_Model_set_52 ?_
      refine z_iload_n C d_Model_set_53 0 rfl rfl ?_
      cases hf
      exact z_iret C rfl (Nat.le_of_ble_eq_true rfl) (Nat.le_of_ble_eq_true rfl) d_Model_set_54
    · have hf := iff_t hf h13
      refine z_aload_n C d_Model_set_33 0 rfl rfl ?_
      refine z_iconst C d_Model_set_34 zki_1 ?_
      obtain ⟨r11, σ12, h10, hf⟩ := bd2_s hf
      refine z_cVi C kl_Model_62 rfl (c_Model_fail hm h10) (zm4 hm 80 rfl) rfl rfl rfl (Nat.le_of_ble_eq_true rfl) ⟨(Nat.le_of_ble_eq_true rfl), (Nat.le_of_ble_eq_true rfl)⟩ ⟨(Nat.le_of_ble_eq_true rfl), (Nat.le_of_ble_eq_true rfl)⟩ d_Model_set_35 ?_
      cases hf
      exact z_iret C rfl (Nat.le_of_ble_eq_true rfl) (Nat.le_of_ble_eq_true rfl) d_Model_set_38
abbrev rm_Model_seed : Room := { frames := 1, cells := 0, slots := 0, locals := 22 }
theorem d_Model_seed_0 : decode b_Model_seed 0 = .ok (.aload_n 0, 1) := by decide +kernel
theorem d_Model_seed_1 : decode b_Model_seed 1 = .ok (.iload_n 1, 1) := by decide +kernel
theorem d_Model_seed_2 : decode b_Model_seed 2 = .ok (.iconst 0, 1) := by decide +kernel
theorem d_Model_seed_3 : decode b_Model_seed 3 = .ok (.ldc 144, 2) := by decide +kernel
theorem d_Model_seed_5 : decode b_Model_seed 5 = .ok (.invokestatic 51, 3) := by decide +kernel
theorem d_Model_seed_8 : decode b_Model_seed 8 = .ok (.ifCond .eq 7, 3) := by decide +kernel
theorem d_Model_seed_11 : decode b_Model_seed 11 = .ok (.iconst 0, 1) := by decide +kernel
theorem d_Model_seed_12 : decode b_Model_seed 12 = .ok (.goto 4, 3) := by decide +kernel
theorem d_Model_seed_15 : decode b_Model_seed 15 = .ok (.iconst 1, 1) := by decide +kernel
theorem d_Model_seed_16 : decode b_Model_seed 16 = .ok (.putfield 48, 3) := by decide +kernel
theorem d_Model_seed_19 : decode b_Model_seed 19 = .ok (.aload_n 0, 1) := by decide +kernel
theorem d_Model_seed_20 : decode b_Model_seed 20 = .ok (.getfield 7, 3) := by decide +kernel
theorem d_Model_seed_23 : decode b_Model_seed 23 = .ok (.bipush 9, 2) := by decide +kernel
theorem d_Model_seed_25 : decode b_Model_seed 25 = .ok (.aload_n 0, 1) := by decide +kernel
theorem d_Model_seed_26 : decode b_Model_seed 26 = .ok (.getfield 48, 3) := by decide +kernel
theorem d_Model_seed_29 : decode b_Model_seed 29 = .ok (.ifCond .ne 7, 3) := by decide +kernel
theorem d_Model_seed_32 : decode b_Model_seed 32 = .ok (.iload_n 1, 1) := by decide +kernel
theorem d_Model_seed_33 : decode b_Model_seed 33 = .ok (.goto 10, 3) := by decide +kernel
theorem d_Model_seed_36 : decode b_Model_seed 36 = .ok (.aload_n 0, 1) := by decide +kernel
theorem d_Model_seed_37 : decode b_Model_seed 37 = .ok (.getfield 7, 3) := by decide +kernel
theorem d_Model_seed_40 : decode b_Model_seed 40 = .ok (.bipush 9, 2) := by decide +kernel
theorem d_Model_seed_42 : decode b_Model_seed 42 = .ok (.iaload, 1) := by decide +kernel
theorem d_Model_seed_43 : decode b_Model_seed 43 = .ok (.iastore, 1) := by decide +kernel
theorem d_Model_seed_44 : decode b_Model_seed 44 = .ok (.return_, 1) := by decide +kernel
def B_Model_seed_16 (x1 : Int32) (y1 : Int32) (σ : zSt) : Option (zSt) :=
  if ((zst σ 4 80 8 y1).1 4 80 8) = 0 then some (zst (zst σ 4 80 8 y1) 4 81 9 x1) else some (zst (zst σ 4 80 8 y1) 4 81 9 ((zst σ 4 80 8 y1).1 4 81 9))
set_option maxHeartbeats 4000000 in
set_option maxRecDepth 100000 in
theorem w_Model_seed_16 {l : Launch} {G : zLA} {p : Program} {e : Env} {s : State} {m : MethodId} {args : Array Value} {below : List Frame} {meth : Method} {c : Code} (C : zCx G p s m args meth c "VillageWavesModel" b_Model_seed 2 none) (hm : zml G) {x1 : Int32} {y1 : Int32} {σ : zSt} {σ' : zSt} (hf : B_Model_seed_16 x1 y1 σ = some σ') : zWV G p l e rm_Model_seed s m args below meth c 2 0 0 (zQ G below args s rm_Model_seed none σ') 16 [(0, .ref (zad G 4 80)), (1, .int x1)] [.int y1, .ref (zad G 4 80)] σ := by
  rw [B_Model_seed_16] at hf
  refine pf_Model_48 C (zm4 hm 80 rfl) rfl (Nat.le_of_ble_eq_true rfl) rfl d_Model_seed_16 ?_
  refine z_aload_n C d_Model_seed_19 0 rfl rfl ?_
  refine gf_Model_7 C (zm4 hm 80 rfl) rfl rfl d_Model_seed_20 ?_
  refine z_bipush C d_Model_seed_23 zkb_9 ?_
  refine z_aload_n C d_Model_seed_25 0 rfl rfl ?_
  refine gf_Model_48 C (zm4 hm 80 rfl) rfl rfl d_Model_seed_26 ?_
  refine z_if_ne (tgt := 36) C d_Model_seed_29 rfl (fun h4 => ?_) (fun h4 => ?_)
  · have hf := iff_f hf h4
    refine z_aload_n C d_Model_seed_36 0 rfl rfl ?_
    refine gf_Model_7 C (zm4 hm 80 rfl) rfl rfl d_Model_seed_37 ?_
    refine z_bipush C d_Model_seed_40 zkb_9 ?_
    refine z_iald C (zm4 hm 81 rfl) rfl (inb_in (by decide)) zc_9 d_Model_seed_42 ?_
    refine z_iast C (zm4 hm 81 rfl) (fun _ _ _ => rfl) (inb_in (by decide)) zc_9 d_Model_seed_43 ?_
    cases hf
    exact z_vret C rfl (Nat.le_of_ble_eq_true rfl) (Nat.le_of_ble_eq_true rfl) d_Model_seed_44
  · have hf := iff_t hf h4
    refine z_iload_n C d_Model_seed_32 1 rfl rfl ?_
    refine z_goto (tgt := 43) C d_Model_seed_33 rfl ?_
    refine z_iast C (zm4 hm 81 rfl) (fun _ _ _ => rfl) (inb_in (by decide)) zc_9 d_Model_seed_43 ?_
    cases hf
    exact z_vret C rfl (Nat.le_of_ble_eq_true rfl) (Nat.le_of_ble_eq_true rfl) d_Model_seed_44
def F_Model_seed (a0 : Int32) (σ : zSt) : Option (zSt) :=
  (F_Model_isBetween a0 (0 : Int32) (1000002 : Int32) σ).bind fun r2 => if r2 = 0 then B_Model_seed_16 a0 (1 : Int32) σ else B_Model_seed_16 a0 (0 : Int32) σ
set_option maxHeartbeats 4000000 in
set_option maxRecDepth 100000 in
theorem c_Model_seed {l : Launch} {G : zLA} (hm : zml G) {a0 : Int32} {σ : zSt} {σ' : zSt} (hf : F_Model_seed a0 σ = some σ') : zM l G y_Model_seed (zws y_Model_seed b_Model_seed 2 none) rm_Model_seed [.ref (zad G 4 80), .int a0] σ none σ' := by
  refine z_ofM (own := "VillageWavesModel") (lv := [(0, .ref (zad G 4 80)), (1, .int a0)]) (by decide +kernel) rfl rfl (Nat.le_of_ble_eq_true rfl) (fun p e s m args below meth c C => ?_)
  rw [F_Model_seed] at hf
  refine z_aload_n C d_Model_seed_0 0 rfl rfl ?_
  refine z_iload_n C d_Model_seed_1 1 rfl rfl ?_
  refine z_iconst C d_Model_seed_2 zki_0 ?_
  refine z_ldc C d_Model_seed_3 zq1450 ?_
  obtain ⟨r2, h1, hf⟩ := bd_s hf
  refine z_cSi C kl_Model_51 (c_Model_isBetween h1) rfl rfl (Nat.le_of_ble_eq_true rfl) ⟨(Nat.le_of_ble_eq_true rfl), (Nat.le_of_ble_eq_true rfl)⟩ ⟨(Nat.le_of_ble_eq_true rfl), (Nat.le_of_ble_eq_true rfl)⟩ d_Model_seed_5 ?_
  refine z_if_eq (tgt := 15) C d_Model_seed_8 rfl (fun h3 => ?_) (fun h3 => ?_)
  · have hf := iff_t hf h3
    refine z_iconst C d_Model_seed_15 zki_1 ?_
    exact z_sub [0, 1] rfl (w_Model_seed_16 C hm hf)
  · have hf := iff_f hf h3
    refine z_iconst C d_Model_seed_11 zki_0 ?_
    refine z_goto (tgt := 16) C d_Model_seed_12 rfl ?_
    exact z_sub [0, 1] rfl (w_Model_seed_16 C hm hf)
abbrev rm_Model_isQuietAt : Room := { frames := 1, cells := 0, slots := 0, locals := 22 }
theorem d_Model_isQuietAt_0 : decode b_Model_isQuietAt 0 = .ok (.aload_n 0, 1) := by decide +kernel
theorem d_Model_isQuietAt_1 : decode b_Model_isQuietAt 1 = .ok (.iload_n 1, 1) := by decide +kernel
theorem d_Model_isQuietAt_2 : decode b_Model_isQuietAt 2 = .ok (.iconst 5, 1) := by decide +kernel
theorem d_Model_isQuietAt_3 : decode b_Model_isQuietAt 3 = .ok (.invokevirtual 191, 3) := by decide +kernel
theorem d_Model_isQuietAt_6 : decode b_Model_isQuietAt 6 = .ok (.istore_n 3, 1) := by decide +kernel
theorem d_Model_isQuietAt_7 : decode b_Model_isQuietAt 7 = .ok (.aload_n 0, 1) := by decide +kernel
theorem d_Model_isQuietAt_8 : decode b_Model_isQuietAt 8 = .ok (.iload_n 1, 1) := by decide +kernel
theorem d_Model_isQuietAt_9 : decode b_Model_isQuietAt 9 = .ok (.bipush 6, 2) := by decide +kernel
theorem d_Model_isQuietAt_11 : decode b_Model_isQuietAt 11 = .ok (.invokevirtual 191, 3) := by decide +kernel
theorem d_Model_isQuietAt_14 : decode b_Model_isQuietAt 14 = .ok (.istore 4, 2) := by decide +kernel
theorem d_Model_isQuietAt_16 : decode b_Model_isQuietAt 16 = .ok (.iload_n 3, 1) := by decide +kernel
theorem d_Model_isQuietAt_17 : decode b_Model_isQuietAt 17 = .ok (.iconst (-1), 1) := by decide +kernel
theorem d_Model_isQuietAt_18 : decode b_Model_isQuietAt 18 = .ok (.if_icmp .ne 5, 3) := by decide +kernel
theorem d_Model_isQuietAt_21 : decode b_Model_isQuietAt 21 = .ok (.iconst 0, 1) := by decide +kernel
theorem d_Model_isQuietAt_22 : decode b_Model_isQuietAt 22 = .ok (.ireturn, 1) := by decide +kernel
theorem d_Model_isQuietAt_23 : decode b_Model_isQuietAt 23 = .ok (.iload_n 3, 1) := by decide +kernel
theorem d_Model_isQuietAt_24 : decode b_Model_isQuietAt 24 = .ok (.iload 4, 2) := by decide +kernel
theorem d_Model_isQuietAt_26 : decode b_Model_isQuietAt 26 = .ok (.if_icmp .gt 13, 3) := by decide +kernel
theorem d_Model_isQuietAt_29 : decode b_Model_isQuietAt 29 = .ok (.iload_n 2, 1) := by decide +kernel
theorem d_Model_isQuietAt_30 : decode b_Model_isQuietAt 30 = .ok (.iload_n 3, 1) := by decide +kernel
theorem d_Model_isQuietAt_31 : decode b_Model_isQuietAt 31 = .ok (.iload 4, 2) := by decide +kernel
theorem d_Model_isQuietAt_33 : decode b_Model_isQuietAt 33 = .ok (.invokestatic 51, 3) := by decide +kernel
theorem d_Model_isQuietAt_36 : decode b_Model_isQuietAt 36 = .ok (.goto 19, 3) := by decide +kernel
theorem d_Model_isQuietAt_39 : decode b_Model_isQuietAt 39 = .ok (.iload_n 2, 1) := by decide +kernel
theorem d_Model_isQuietAt_40 : decode b_Model_isQuietAt 40 = .ok (.iload_n 3, 1) := by decide +kernel
theorem d_Model_isQuietAt_41 : decode b_Model_isQuietAt 41 = .ok (.if_icmp .ge 9, 3) := by decide +kernel
theorem d_Model_isQuietAt_44 : decode b_Model_isQuietAt 44 = .ok (.iload_n 2, 1) := by decide +kernel
theorem d_Model_isQuietAt_45 : decode b_Model_isQuietAt 45 = .ok (.iload 4, 2) := by decide +kernel
theorem d_Model_isQuietAt_47 : decode b_Model_isQuietAt 47 = .ok (.if_icmp .gt 7, 3) := by decide +kernel
theorem d_Model_isQuietAt_50 : decode b_Model_isQuietAt 50 = .ok (.iconst 1, 1) := by decide +kernel
theorem d_Model_isQuietAt_51 : decode b_Model_isQuietAt 51 = .ok (.goto 4, 3) := by decide +kernel
theorem d_Model_isQuietAt_54 : decode b_Model_isQuietAt 54 = .ok (.iconst 0, 1) := by decide +kernel
theorem d_Model_isQuietAt_55 : decode b_Model_isQuietAt 55 = .ok (.ireturn, 1) := by decide +kernel
def F_Model_isQuietAt (a0 : Int32) (a1 : Int32) (σ : zSt) : Option (Int32) :=
  (F_Model_of a0 (5 : Int32) σ).bind fun r2 => (F_Model_of a0 (6 : Int32) σ).bind fun r4 => if r2 = (-1 : Int32) then some (0 : Int32) else (if r4 < r2 then (if r2 ≤ a1 then some (1 : Int32) else (if r4 < a1 then some (0 : Int32) else some (1 : Int32))) else ((F_Model_isBetween a1 r2 r4 σ).bind fun r8 => if (r8 = 0 ∨ r8 = 1) then some r8 else none))
set_option maxHeartbeats 4000000 in
set_option maxRecDepth 100000 in
theorem c_Model_isQuietAt {l : Launch} {G : zLA} (hm : zml G) {a0 : Int32} {a1 : Int32} {σ : zSt} {r : Int32} (hf : F_Model_isQuietAt a0 a1 σ = some r) : zM l G y_Model_isQuietAt (zws y_Model_isQuietAt b_Model_isQuietAt 5 (some .boolean)) rm_Model_isQuietAt [.ref (zad G 4 80), .int a0, .int a1] σ (some (.int r)) σ := by
  refine z_ofM (own := "VillageWavesModel") (lv := [(0, .ref (zad G 4 80)), (1, .int a0), (2, .int a1)]) (by decide +kernel) rfl rfl (Nat.le_of_ble_eq_true rfl) (fun p e s m args below meth c C => ?_)
  rw [F_Model_isQuietAt] at hf
  refine z_aload_n C d_Model_isQuietAt_0 0 rfl rfl ?_
  refine z_iload_n C d_Model_isQuietAt_1 1 rfl rfl ?_
  refine z_iconst C d_Model_isQuietAt_2 zki_5 ?_
  obtain ⟨r2, h1, hf⟩ := bd_s hf
  refine z_cVi C kl_Model_191 rfl (c_Model_of hm h1) (zm4 hm 80 rfl) rfl rfl rfl (Nat.le_of_ble_eq_true rfl) ⟨(Nat.le_of_ble_eq_true rfl), (Nat.le_of_ble_eq_true rfl)⟩ ⟨(Nat.le_of_ble_eq_true rfl), (Nat.le_of_ble_eq_true rfl)⟩ d_Model_isQuietAt_3 ?_
  refine z_istore_n C d_Model_isQuietAt_6 rfl (by decide) ?_
  refine z_aload_n C d_Model_isQuietAt_7 1 rfl rfl ?_
  refine z_iload_n C d_Model_isQuietAt_8 2 rfl rfl ?_
  refine z_bipush C d_Model_isQuietAt_9 zkb_6 ?_
  obtain ⟨r4, h3, hf⟩ := bd_s hf
  refine z_cVi C kl_Model_191 rfl (c_Model_of hm h3) (zm4 hm 80 rfl) rfl rfl rfl (Nat.le_of_ble_eq_true rfl) ⟨(Nat.le_of_ble_eq_true rfl), (Nat.le_of_ble_eq_true rfl)⟩ ⟨(Nat.le_of_ble_eq_true rfl), (Nat.le_of_ble_eq_true rfl)⟩ d_Model_isQuietAt_11 ?_
  refine z_istore C d_Model_isQuietAt_14 (by decide) ?_
  refine z_iload_n C d_Model_isQuietAt_16 1 rfl rfl ?_
  refine z_iconst C d_Model_isQuietAt_17 zki_m1 ?_
  refine z_icmp_ne (tgt := 23) C d_Model_isQuietAt_18 rfl (fun h11 => ?_) (fun h11 => ?_)
  · have hf := iff_f hf h11
    refine z_iload_n C d_Model_isQuietAt_23 1 rfl rfl ?_
    refine z_iload C d_Model_isQuietAt_24 0 rfl ?_
    refine z_icmp_gt (tgt := 39) C d_Model_isQuietAt_26 rfl (fun h10 => ?_) (fun h10 => ?_)
    · have hf := iff_t hf h10
      refine z_iload_n C d_Model_isQuietAt_39 4 rfl rfl ?_
      refine z_iload_n C d_Model_isQuietAt_40 1 rfl rfl ?_
      refine z_icmp_ge (tgt := 50) C d_Model_isQuietAt_41 rfl (fun h6 => ?_) (fun h6 => ?_)
      · have hf := iff_t hf h6
        refine z_iconst C d_Model_isQuietAt_50 zki_1 ?_
        refine z_goto (tgt := 55) C d_Model_isQuietAt_51 rfl ?_
        cases hf
        exact z_zret C rfl rfl (Nat.le_of_ble_eq_true rfl) (Nat.le_of_ble_eq_true rfl) d_Model_isQuietAt_55
      · have hf := iff_f hf h6
        refine z_iload_n C d_Model_isQuietAt_44 4 rfl rfl ?_
        refine z_iload C d_Model_isQuietAt_45 0 rfl ?_
        refine z_icmp_gt (tgt := 54) C d_Model_isQuietAt_47 rfl (fun h5 => ?_) (fun h5 => ?_)
        · have hf := iff_t hf h5
          refine z_iconst C d_Model_isQuietAt_54 zki_0 ?_
          cases hf
          exact z_zret C rfl rfl (Nat.le_of_ble_eq_true rfl) (Nat.le_of_ble_eq_true rfl) d_Model_isQuietAt_55
        · have hf := iff_f hf h5
          refine z_iconst C d_Model_isQuietAt_50 zki_1 ?_
          refine z_goto (tgt := 55) C d_Model_isQuietAt_51 rfl ?_
          cases hf
          exact z_zret C rfl rfl (Nat.le_of_ble_eq_true rfl) (Nat.le_of_ble_eq_true rfl) d_Model_isQuietAt_55
    · have hf := iff_f hf h10
      refine z_iload_n C d_Model_isQuietAt_29 4 rfl rfl ?_
      refine z_iload_n C d_Model_isQuietAt_30 1 rfl rfl ?_
      refine z_iload C d_Model_isQuietAt_31 0 rfl ?_
      obtain ⟨r8, h7, hf⟩ := bd_s hf
      refine z_cSi C kl_Model_51 (c_Model_isBetween h7) rfl rfl (Nat.le_of_ble_eq_true rfl) ⟨(Nat.le_of_ble_eq_true rfl), (Nat.le_of_ble_eq_true rfl)⟩ ⟨(Nat.le_of_ble_eq_true rfl), (Nat.le_of_ble_eq_true rfl)⟩ d_Model_isQuietAt_33 ?_
      refine z_goto (tgt := 55) C d_Model_isQuietAt_36 rfl ?_
      obtain ⟨h9, hf⟩ := iff_g hf
      cases hf
      exact z_zret C rfl (znb h9) (Nat.le_of_ble_eq_true rfl) (Nat.le_of_ble_eq_true rfl) d_Model_isQuietAt_55
  · have hf := iff_t hf h11
    refine z_iconst C d_Model_isQuietAt_21 zki_0 ?_
    cases hf
    exact z_zret C rfl rfl (Nat.le_of_ble_eq_true rfl) (Nat.le_of_ble_eq_true rfl) d_Model_isQuietAt_22
abbrev rm_Model_isQuiet : Room := { frames := 2, cells := 0, slots := 0, locals := 46 }
theorem d_Model_isQuiet_0 : decode b_Model_isQuiet 0 = .ok (.aload_n 0, 1) := by decide +kernel
theorem d_Model_isQuiet_1 : decode b_Model_isQuiet 1 = .ok (.iload_n 1, 1) := by decide +kernel
theorem d_Model_isQuiet_2 : decode b_Model_isQuiet 2 = .ok (.aload_n 0, 1) := by decide +kernel
theorem d_Model_isQuiet_3 : decode b_Model_isQuiet 3 = .ok (.getfield 7, 3) := by decide +kernel
theorem d_Model_isQuiet_6 : decode b_Model_isQuiet 6 = .ok (.bipush 8, 2) := by decide +kernel
theorem d_Model_isQuiet_8 : decode b_Model_isQuiet 8 = .ok (.iaload, 1) := by decide +kernel
theorem d_Model_isQuiet_9 : decode b_Model_isQuiet 9 = .ok (.aload_n 0, 1) := by decide +kernel
theorem d_Model_isQuiet_10 : decode b_Model_isQuiet 10 = .ok (.getfield 7, 3) := by decide +kernel
theorem d_Model_isQuiet_13 : decode b_Model_isQuiet 13 = .ok (.iconst 5, 1) := by decide +kernel
theorem d_Model_isQuiet_14 : decode b_Model_isQuiet 14 = .ok (.iaload, 1) := by decide +kernel
theorem d_Model_isQuiet_15 : decode b_Model_isQuiet 15 = .ok (.irem, 1) := by decide +kernel
theorem d_Model_isQuiet_16 : decode b_Model_isQuiet 16 = .ok (.invokevirtual 202, 3) := by decide +kernel
theorem d_Model_isQuiet_19 : decode b_Model_isQuiet 19 = .ok (.ireturn, 1) := by decide +kernel
def F_Model_isQuiet (a0 : Int32) (σ : zSt) : Option (Int32) :=
  if ¬ (σ.1 4 81 5) = (0 : Int32) then (F_Model_isQuietAt a0 ((σ.1 4 81 8) - (σ.1 4 81 8) / (σ.1 4 81 5) * (σ.1 4 81 5)) σ).bind fun r2 => if (r2 = 0 ∨ r2 = 1) then some r2 else none else none
set_option maxHeartbeats 4000000 in
set_option maxRecDepth 100000 in
theorem c_Model_isQuiet {l : Launch} {G : zLA} (hm : zml G) {a0 : Int32} {σ : zSt} {r : Int32} (hf : F_Model_isQuiet a0 σ = some r) : zM l G y_Model_isQuiet (zws y_Model_isQuiet b_Model_isQuiet 2 (some .boolean)) rm_Model_isQuiet [.ref (zad G 4 80), .int a0] σ (some (.int r)) σ := by
  refine z_ofM (own := "VillageWavesModel") (lv := [(0, .ref (zad G 4 80)), (1, .int a0)]) (by decide +kernel) rfl rfl (Nat.le_of_ble_eq_true rfl) (fun p e s m args below meth c C => ?_)
  rw [F_Model_isQuiet] at hf
  refine z_aload_n C d_Model_isQuiet_0 0 rfl rfl ?_
  refine z_iload_n C d_Model_isQuiet_1 1 rfl rfl ?_
  refine z_aload_n C d_Model_isQuiet_2 0 rfl rfl ?_
  refine gf_Model_7 C (zm4 hm 80 rfl) rfl rfl d_Model_isQuiet_3 ?_
  refine z_bipush C d_Model_isQuiet_6 zkb_8 ?_
  refine z_iald C (zm4 hm 81 rfl) rfl (inb_in (by decide)) zc_8 d_Model_isQuiet_8 ?_
  refine z_aload_n C d_Model_isQuiet_9 0 rfl rfl ?_
  refine gf_Model_7 C (zm4 hm 80 rfl) rfl rfl d_Model_isQuiet_10 ?_
  refine z_iconst C d_Model_isQuiet_13 zki_5 ?_
  refine z_iald C (zm4 hm 81 rfl) rfl (inb_in (by decide)) zc_5 d_Model_isQuiet_14 ?_
  obtain ⟨h4, hf⟩ := iff_g hf
  refine z_irem C d_Model_isQuiet_15 h4 ?_
  obtain ⟨r2, h1, hf⟩ := bd_s hf
  refine z_cVi C kl_Model_202 rfl (c_Model_isQuietAt hm h1) (zm4 hm 80 rfl) rfl rfl rfl (Nat.le_of_ble_eq_true rfl) ⟨(Nat.le_of_ble_eq_true rfl), (Nat.le_of_ble_eq_true rfl)⟩ ⟨(Nat.le_of_ble_eq_true rfl), (Nat.le_of_ble_eq_true rfl)⟩ d_Model_isQuiet_16 ?_
  obtain ⟨h3, hf⟩ := iff_g hf
  cases hf
  exact z_zret C rfl (znb h3) (Nat.le_of_ble_eq_true rfl) (Nat.le_of_ble_eq_true rfl) d_Model_isQuiet_19
abbrev rm_Model_quietHouses : Room := { frames := 3, cells := 0, slots := 0, locals := 67 }
theorem d_Model_quietHouses_0 : decode b_Model_quietHouses 0 = .ok (.iconst 0, 1) := by decide +kernel
theorem d_Model_quietHouses_1 : decode b_Model_quietHouses 1 = .ok (.istore_n 1, 1) := by decide +kernel
theorem d_Model_quietHouses_2 : decode b_Model_quietHouses 2 = .ok (.iconst 0, 1) := by decide +kernel
theorem d_Model_quietHouses_3 : decode b_Model_quietHouses 3 = .ok (.istore_n 2, 1) := by decide +kernel
theorem d_Model_quietHouses_4 : decode b_Model_quietHouses 4 = .ok (.iload_n 2, 1) := by decide +kernel
theorem d_Model_quietHouses_5 : decode b_Model_quietHouses 5 = .ok (.aload_n 0, 1) := by decide +kernel
theorem d_Model_quietHouses_6 : decode b_Model_quietHouses 6 = .ok (.getfield 7, 3) := by decide +kernel
theorem d_Model_quietHouses_9 : decode b_Model_quietHouses 9 = .ok (.bipush 6, 2) := by decide +kernel
theorem d_Model_quietHouses_11 : decode b_Model_quietHouses 11 = .ok (.iaload, 1) := by decide +kernel
theorem d_Model_quietHouses_12 : decode b_Model_quietHouses 12 = .ok (.if_icmp .ge 27, 3) := by decide +kernel
theorem d_Model_quietHouses_15 : decode b_Model_quietHouses 15 = .ok (.iload_n 1, 1) := by decide +kernel
theorem d_Model_quietHouses_16 : decode b_Model_quietHouses 16 = .ok (.aload_n 0, 1) := by decide +kernel
theorem d_Model_quietHouses_17 : decode b_Model_quietHouses 17 = .ok (.iload_n 2, 1) := by decide +kernel
theorem d_Model_quietHouses_18 : decode b_Model_quietHouses 18 = .ok (.invokevirtual 206, 3) := by decide +kernel
theorem d_Model_quietHouses_21 : decode b_Model_quietHouses 21 = .ok (.ifCond .eq 9, 3) := by decide +kernel
theorem d_Model_quietHouses_24 : decode b_Model_quietHouses 24 = .ok (.iconst 1, 1) := by decide +kernel
theorem d_Model_quietHouses_25 : decode b_Model_quietHouses 25 = .ok (.iload_n 2, 1) := by decide +kernel
theorem d_Model_quietHouses_26 : decode b_Model_quietHouses 26 = .ok (.ishl, 1) := by decide +kernel
theorem d_Model_quietHouses_27 : decode b_Model_quietHouses 27 = .ok (.goto 4, 3) := by decide +kernel
theorem d_Model_quietHouses_30 : decode b_Model_quietHouses 30 = .ok (.iconst 0, 1) := by decide +kernel
theorem d_Model_quietHouses_31 : decode b_Model_quietHouses 31 = .ok (.iadd, 1) := by decide +kernel
theorem d_Model_quietHouses_32 : decode b_Model_quietHouses 32 = .ok (.istore_n 1, 1) := by decide +kernel
theorem d_Model_quietHouses_33 : decode b_Model_quietHouses 33 = .ok (.iinc 2 1, 3) := by decide +kernel
theorem d_Model_quietHouses_36 : decode b_Model_quietHouses 36 = .ok (.goto (-32), 3) := by decide +kernel
theorem d_Model_quietHouses_39 : decode b_Model_quietHouses 39 = .ok (.iload_n 1, 1) := by decide +kernel
theorem d_Model_quietHouses_40 : decode b_Model_quietHouses 40 = .ok (.ireturn, 1) := by decide +kernel
def L_Model_quietHouses (σ : zSt) : Nat → Nat → Int32 → Int32 → Option (Int32)
  | 0, _, _, _ => none
  | n + 1, 0, x1, x2 => if (σ.1 4 81 6) ≤ x2 then some x1 else ((F_Model_isQuiet x2 σ).bind fun r2 => if r2 = 0 then L_Model_quietHouses σ n 0 (x1 + (0 : Int32)) (x2 + (1 : Int32)) else L_Model_quietHouses σ n 0 (x1 + ((1 : Int32) <<< (x2 &&& 31))) (x2 + (1 : Int32)))
  | _ + 1, _, _, _ => none
theorem e_Model_quietHouses_0 (σ : zSt) (n : Nat) (x1 : Int32) (x2 : Int32) : L_Model_quietHouses σ (n + 1) 0 x1 x2 = (if (σ.1 4 81 6) ≤ x2 then some x1 else ((F_Model_isQuiet x2 σ).bind fun r2 => if r2 = 0 then L_Model_quietHouses σ n 0 (x1 + (0 : Int32)) (x2 + (1 : Int32)) else L_Model_quietHouses σ n 0 (x1 + ((1 : Int32) <<< (x2 &&& 31))) (x2 + (1 : Int32)))) := rfl
set_option maxHeartbeats 4000000 in
set_option maxRecDepth 100000 in
theorem w_Model_quietHouses {l : Launch} {G : zLA} {p : Program} {e : Env} {s : State} {m : MethodId} {args : Array Value} {below : List Frame} {meth : Method} {c : Code} (C : zCx G p s m args meth c "VillageWavesModel" b_Model_quietHouses 3 (some .int)) (hm : zml G) {σ : zSt} {r : Int32} : ∀ n : Nat, (∀ (x1 : Int32) (x2 : Int32), L_Model_quietHouses σ n 0 x1 x2 = some r → zWV G p l e rm_Model_quietHouses s m args below meth c 3 0 0 (zQ G below args s rm_Model_quietHouses (some (.int r)) σ) 4 [(0, .ref (zad G 4 80)), (1, .int x1), (2, .int x2)] [] σ) := by
  intro n
  induction n with
  | zero => exact fun _ _ hf => (by cases hf)
  | succ n ih =>
    refine ?_
    · intro x1 x2 hf
      rw [e_Model_quietHouses_0] at hf
      refine z_iload_n C d_Model_quietHouses_4 2 rfl rfl ?_
      refine z_aload_n C d_Model_quietHouses_5 0 rfl rfl ?_
      refine gf_Model_7 C (zm4 hm 80 rfl) rfl rfl d_Model_quietHouses_6 ?_
      refine z_bipush C d_Model_quietHouses_9 zkb_6 ?_
      refine z_iald C (zm4 hm 81 rfl) rfl (inb_in (by decide)) zc_6 d_Model_quietHouses_11 ?_
      refine z_icmp_ge (tgt := 39) C d_Model_quietHouses_12 rfl (fun h4 => ?_) (fun h4 => ?_)
      · have hf := iff_t hf h4
        refine z_iload_n C d_Model_quietHouses_39 1 rfl rfl ?_
        cases hf
        exact z_iret C rfl (Nat.le_of_ble_eq_true rfl) (Nat.le_of_ble_eq_true rfl) d_Model_quietHouses_40
      · have hf := iff_f hf h4
        refine z_iload_n C d_Model_quietHouses_15 1 rfl rfl ?_
        refine z_aload_n C d_Model_quietHouses_16 0 rfl rfl ?_
        refine z_iload_n C d_Model_quietHouses_17 2 rfl rfl ?_
        obtain ⟨r2, h1, hf⟩ := bd_s hf
        refine z_cVi C kl_Model_206 rfl (c_Model_isQuiet hm h1) (zm4 hm 80 rfl) rfl rfl rfl (Nat.le_of_ble_eq_true rfl) ⟨(Nat.le_of_ble_eq_true rfl), (Nat.le_of_ble_eq_true rfl)⟩ ⟨(Nat.le_of_ble_eq_true rfl), (Nat.le_of_ble_eq_true rfl)⟩ d_Model_quietHouses_18 ?_
        refine z_if_eq (tgt := 30) C d_Model_quietHouses_21 rfl (fun h3 => ?_) (fun h3 => ?_)
        · have hf := iff_t hf h3
          refine z_iconst C d_Model_quietHouses_30 zki_0 ?_
          refine z_iadd C d_Model_quietHouses_31 ?_
          refine z_istore_n C d_Model_quietHouses_32 rfl (by decide) ?_
          refine z_iinc C d_Model_quietHouses_33 2 rfl zki_1 (by decide) ?_
          refine z_goto (tgt := 4) C d_Model_quietHouses_36 rfl ?_
          exact z_sub [2, 1, 0] rfl (ih _ _ hf)
        · have hf := iff_f hf h3
          refine z_iconst C d_Model_quietHouses_24 zki_1 ?_
          refine z_iload_n C d_Model_quietHouses_25 2 rfl rfl ?_
          refine z_ishl C d_Model_quietHouses_26 ?_
          refine z_goto (tgt := 31) C d_Model_quietHouses_27 rfl ?_
          refine z_iadd C d_Model_quietHouses_31 ?_
          refine z_istore_n C d_Model_quietHouses_32 rfl (by decide) ?_
          refine z_iinc C d_Model_quietHouses_33 2 rfl zki_1 (by decide) ?_
          refine z_goto (tgt := 4) C d_Model_quietHouses_36 rfl ?_
          exact z_sub [2, 1, 0] rfl (ih _ _ hf)
def F_Model_quietHouses (σ : zSt) : Option (Int32) :=
  L_Model_quietHouses σ zK 0 (0 : Int32) (0 : Int32)
set_option maxHeartbeats 4000000 in
set_option maxRecDepth 100000 in
theorem c_Model_quietHouses {l : Launch} {G : zLA} (hm : zml G) {σ : zSt} {r : Int32} (hf : F_Model_quietHouses σ = some r) : zM l G y_Model_quietHouses (zws y_Model_quietHouses b_Model_quietHouses 3 (some .int)) rm_Model_quietHouses [.ref (zad G 4 80)] σ (some (.int r)) σ := by
  refine z_ofM (own := "VillageWavesModel") (lv := [(0, .ref (zad G 4 80))]) (by decide +kernel) rfl rfl (Nat.le_of_ble_eq_true rfl) (fun p e s m args below meth c C => ?_)
  rw [F_Model_quietHouses] at hf
  refine z_iconst C d_Model_quietHouses_0 zki_0 ?_
  refine z_istore_n C d_Model_quietHouses_1 rfl (by decide) ?_
  refine z_iconst C d_Model_quietHouses_2 zki_0 ?_
  refine z_istore_n C d_Model_quietHouses_3 rfl (by decide) ?_
  exact z_sub [2, 1, 0] rfl ((w_Model_quietHouses C hm zK) _ _ hf)
abbrev rm_Model_entriesOf : Room := { frames := 2, cells := 0, slots := 0, locals := 44 }
theorem d_Model_entriesOf_0 : decode b_Model_entriesOf 0 = .ok (.iconst 0, 1) := by decide +kernel
theorem d_Model_entriesOf_1 : decode b_Model_entriesOf 1 = .ok (.istore_n 2, 1) := by decide +kernel
theorem d_Model_entriesOf_2 : decode b_Model_entriesOf 2 = .ok (.iconst 0, 1) := by decide +kernel
theorem d_Model_entriesOf_3 : decode b_Model_entriesOf 3 = .ok (.istore_n 3, 1) := by decide +kernel
theorem d_Model_entriesOf_4 : decode b_Model_entriesOf 4 = .ok (.iload_n 3, 1) := by decide +kernel
theorem d_Model_entriesOf_5 : decode b_Model_entriesOf 5 = .ok (.aload_n 0, 1) := by decide +kernel
theorem d_Model_entriesOf_6 : decode b_Model_entriesOf 6 = .ok (.getfield 7, 3) := by decide +kernel
theorem d_Model_entriesOf_9 : decode b_Model_entriesOf 9 = .ok (.bipush 7, 2) := by decide +kernel
theorem d_Model_entriesOf_11 : decode b_Model_entriesOf 11 = .ok (.iaload, 1) := by decide +kernel
theorem d_Model_entriesOf_12 : decode b_Model_entriesOf 12 = .ok (.if_icmp .ge 28, 3) := by decide +kernel
theorem d_Model_entriesOf_15 : decode b_Model_entriesOf 15 = .ok (.iload_n 2, 1) := by decide +kernel
theorem d_Model_entriesOf_16 : decode b_Model_entriesOf 16 = .ok (.aload_n 0, 1) := by decide +kernel
theorem d_Model_entriesOf_17 : decode b_Model_entriesOf 17 = .ok (.iload_n 1, 1) := by decide +kernel
theorem d_Model_entriesOf_18 : decode b_Model_entriesOf 18 = .ok (.iload_n 3, 1) := by decide +kernel
theorem d_Model_entriesOf_19 : decode b_Model_entriesOf 19 = .ok (.iconst 4, 1) := by decide +kernel
theorem d_Model_entriesOf_20 : decode b_Model_entriesOf 20 = .ok (.invokevirtual 209, 3) := by decide +kernel
theorem d_Model_entriesOf_23 : decode b_Model_entriesOf 23 = .ok (.aload_n 0, 1) := by decide +kernel
theorem d_Model_entriesOf_24 : decode b_Model_entriesOf 24 = .ok (.iload_n 1, 1) := by decide +kernel
theorem d_Model_entriesOf_25 : decode b_Model_entriesOf 25 = .ok (.iload_n 3, 1) := by decide +kernel
theorem d_Model_entriesOf_26 : decode b_Model_entriesOf 26 = .ok (.bipush 7, 2) := by decide +kernel
theorem d_Model_entriesOf_28 : decode b_Model_entriesOf 28 = .ok (.invokevirtual 209, 3) := by decide +kernel
theorem d_Model_entriesOf_31 : decode b_Model_entriesOf 31 = .ok (.iadd, 1) := by decide +kernel
theorem d_Model_entriesOf_32 : decode b_Model_entriesOf 32 = .ok (.iadd, 1) := by decide +kernel
theorem d_Model_entriesOf_33 : decode b_Model_entriesOf 33 = .ok (.istore_n 2, 1) := by decide +kernel
theorem d_Model_entriesOf_34 : decode b_Model_entriesOf 34 = .ok (.iinc 3 1, 3) := by decide +kernel
theorem d_Model_entriesOf_37 : decode b_Model_entriesOf 37 = .ok (.goto (-33), 3) := by decide +kernel
theorem d_Model_entriesOf_40 : decode b_Model_entriesOf 40 = .ok (.iload_n 2, 1) := by decide +kernel
theorem d_Model_entriesOf_41 : decode b_Model_entriesOf 41 = .ok (.ireturn, 1) := by decide +kernel
def L_Model_entriesOf (σ : zSt) : Nat → Nat → Int32 → Int32 → Int32 → Option (Int32)
  | 0, _, _, _, _ => none
  | n + 1, 0, x1, x2, x3 => if (σ.1 4 81 7) ≤ x3 then some x2 else ((F_Model_pair x1 x3 (4 : Int32) σ).bind fun r2 => (F_Model_pair x1 x3 (7 : Int32) σ).bind fun r4 => L_Model_entriesOf σ n 0 x1 (x2 + (r2 + r4)) (x3 + (1 : Int32)))
  | _ + 1, _, _, _, _ => none
theorem e_Model_entriesOf_0 (σ : zSt) (n : Nat) (x1 : Int32) (x2 : Int32) (x3 : Int32) : L_Model_entriesOf σ (n + 1) 0 x1 x2 x3 = (if (σ.1 4 81 7) ≤ x3 then some x2 else ((F_Model_pair x1 x3 (4 : Int32) σ).bind fun r2 => (F_Model_pair x1 x3 (7 : Int32) σ).bind fun r4 => L_Model_entriesOf σ n 0 x1 (x2 + (r2 + r4)) (x3 + (1 : Int32)))) := rfl
set_option maxHeartbeats 4000000 in
set_option maxRecDepth 100000 in
theorem w_Model_entriesOf {l : Launch} {G : zLA} {p : Program} {e : Env} {s : State} {m : MethodId} {args : Array Value} {below : List Frame} {meth : Method} {c : Code} (C : zCx G p s m args meth c "VillageWavesModel" b_Model_entriesOf 4 (some .int)) (hm : zml G) {σ : zSt} {r : Int32} : ∀ n : Nat, (∀ (x1 : Int32) (x2 : Int32) (x3 : Int32), L_Model_entriesOf σ n 0 x1 x2 x3 = some r → zWV G p l e rm_Model_entriesOf s m args below meth c 4 0 0 (zQ G below args s rm_Model_entriesOf (some (.int r)) σ) 4 [(0, .ref (zad G 4 80)), (1, .int x1), (2, .int x2), (3, .int x3)] [] σ) := by
  intro n
  induction n with
  | zero => exact fun _ _ _ hf => (by cases hf)
  | succ n ih =>
    refine ?_
    · intro x1 x2 x3 hf
      rw [e_Model_entriesOf_0] at hf
      refine z_iload_n C d_Model_entriesOf_4 3 rfl rfl ?_
      refine z_aload_n C d_Model_entriesOf_5 0 rfl rfl ?_
      refine gf_Model_7 C (zm4 hm 80 rfl) rfl rfl d_Model_entriesOf_6 ?_
      refine z_bipush C d_Model_entriesOf_9 zkb_7 ?_
      refine z_iald C (zm4 hm 81 rfl) rfl (inb_in (by decide)) zc_7 d_Model_entriesOf_11 ?_
      refine z_icmp_ge (tgt := 40) C d_Model_entriesOf_12 rfl (fun h5 => ?_) (fun h5 => ?_)
      · have hf := iff_t hf h5
        refine z_iload_n C d_Model_entriesOf_40 2 rfl rfl ?_
        cases hf
        exact z_iret C rfl (Nat.le_of_ble_eq_true rfl) (Nat.le_of_ble_eq_true rfl) d_Model_entriesOf_41
      · have hf := iff_f hf h5
        refine z_iload_n C d_Model_entriesOf_15 2 rfl rfl ?_
        refine z_aload_n C d_Model_entriesOf_16 0 rfl rfl ?_
        refine z_iload_n C d_Model_entriesOf_17 1 rfl rfl ?_
        refine z_iload_n C d_Model_entriesOf_18 3 rfl rfl ?_
        refine z_iconst C d_Model_entriesOf_19 zki_4 ?_
        obtain ⟨r2, h1, hf⟩ := bd_s hf
        refine z_cVi C kl_Model_209 rfl (c_Model_pair hm h1) (zm4 hm 80 rfl) rfl rfl rfl (Nat.le_of_ble_eq_true rfl) ⟨(Nat.le_of_ble_eq_true rfl), (Nat.le_of_ble_eq_true rfl)⟩ ⟨(Nat.le_of_ble_eq_true rfl), (Nat.le_of_ble_eq_true rfl)⟩ d_Model_entriesOf_20 ?_
        refine z_aload_n C d_Model_entriesOf_23 0 rfl rfl ?_
        refine z_iload_n C d_Model_entriesOf_24 1 rfl rfl ?_
        refine z_iload_n C d_Model_entriesOf_25 3 rfl rfl ?_
        refine z_bipush C d_Model_entriesOf_26 zkb_7 ?_
        obtain ⟨r4, h3, hf⟩ := bd_s hf
        refine z_cVi C kl_Model_209 rfl (c_Model_pair hm h3) (zm4 hm 80 rfl) rfl rfl rfl (Nat.le_of_ble_eq_true rfl) ⟨(Nat.le_of_ble_eq_true rfl), (Nat.le_of_ble_eq_true rfl)⟩ ⟨(Nat.le_of_ble_eq_true rfl), (Nat.le_of_ble_eq_true rfl)⟩ d_Model_entriesOf_28 ?_
        refine z_iadd C d_Model_entriesOf_31 ?_
        refine z_iadd C d_Model_entriesOf_32 ?_
        refine z_istore_n C d_Model_entriesOf_33 rfl (by decide) ?_
        refine z_iinc C d_Model_entriesOf_34 3 rfl zki_1 (by decide) ?_
        refine z_goto (tgt := 4) C d_Model_entriesOf_37 rfl ?_
        exact z_sub [2, 3, 1, 0] rfl (ih _ _ _ hf)
def F_Model_entriesOf (a0 : Int32) (σ : zSt) : Option (Int32) :=
  L_Model_entriesOf σ zK 0 a0 (0 : Int32) (0 : Int32)
set_option maxHeartbeats 4000000 in
set_option maxRecDepth 100000 in
theorem c_Model_entriesOf {l : Launch} {G : zLA} (hm : zml G) {a0 : Int32} {σ : zSt} {r : Int32} (hf : F_Model_entriesOf a0 σ = some r) : zM l G y_Model_entriesOf (zws y_Model_entriesOf b_Model_entriesOf 4 (some .int)) rm_Model_entriesOf [.ref (zad G 4 80), .int a0] σ (some (.int r)) σ := by
  refine z_ofM (own := "VillageWavesModel") (lv := [(0, .ref (zad G 4 80)), (1, .int a0)]) (by decide +kernel) rfl rfl (Nat.le_of_ble_eq_true rfl) (fun p e s m args below meth c C => ?_)
  rw [F_Model_entriesOf] at hf
  refine z_iconst C d_Model_entriesOf_0 zki_0 ?_
  refine z_istore_n C d_Model_entriesOf_1 rfl (by decide) ?_
  refine z_iconst C d_Model_entriesOf_2 zki_0 ?_
  refine z_istore_n C d_Model_entriesOf_3 rfl (by decide) ?_
  exact z_sub [2, 3, 1, 0] rfl ((w_Model_entriesOf C hm zK) _ _ _ hf)
abbrev rm_Model_allEntries : Room := { frames := 3, cells := 0, slots := 0, locals := 67 }
theorem d_Model_allEntries_0 : decode b_Model_allEntries 0 = .ok (.iconst 0, 1) := by decide +kernel
theorem d_Model_allEntries_1 : decode b_Model_allEntries 1 = .ok (.istore_n 1, 1) := by decide +kernel
theorem d_Model_allEntries_2 : decode b_Model_allEntries 2 = .ok (.iconst 0, 1) := by decide +kernel
theorem d_Model_allEntries_3 : decode b_Model_allEntries 3 = .ok (.istore_n 2, 1) := by decide +kernel
theorem d_Model_allEntries_4 : decode b_Model_allEntries 4 = .ok (.iload_n 2, 1) := by decide +kernel
theorem d_Model_allEntries_5 : decode b_Model_allEntries 5 = .ok (.aload_n 0, 1) := by decide +kernel
theorem d_Model_allEntries_6 : decode b_Model_allEntries 6 = .ok (.getfield 7, 3) := by decide +kernel
theorem d_Model_allEntries_9 : decode b_Model_allEntries 9 = .ok (.bipush 6, 2) := by decide +kernel
theorem d_Model_allEntries_11 : decode b_Model_allEntries 11 = .ok (.iaload, 1) := by decide +kernel
theorem d_Model_allEntries_12 : decode b_Model_allEntries 12 = .ok (.if_icmp .ge 17, 3) := by decide +kernel
theorem d_Model_allEntries_15 : decode b_Model_allEntries 15 = .ok (.iload_n 1, 1) := by decide +kernel
theorem d_Model_allEntries_16 : decode b_Model_allEntries 16 = .ok (.aload_n 0, 1) := by decide +kernel
theorem d_Model_allEntries_17 : decode b_Model_allEntries 17 = .ok (.iload_n 2, 1) := by decide +kernel
theorem d_Model_allEntries_18 : decode b_Model_allEntries 18 = .ok (.invokevirtual 213, 3) := by decide +kernel
theorem d_Model_allEntries_21 : decode b_Model_allEntries 21 = .ok (.iadd, 1) := by decide +kernel
theorem d_Model_allEntries_22 : decode b_Model_allEntries 22 = .ok (.istore_n 1, 1) := by decide +kernel
theorem d_Model_allEntries_23 : decode b_Model_allEntries 23 = .ok (.iinc 2 1, 3) := by decide +kernel
theorem d_Model_allEntries_26 : decode b_Model_allEntries 26 = .ok (.goto (-22), 3) := by decide +kernel
theorem d_Model_allEntries_29 : decode b_Model_allEntries 29 = .ok (.iload_n 1, 1) := by decide +kernel
theorem d_Model_allEntries_30 : decode b_Model_allEntries 30 = .ok (.ireturn, 1) := by decide +kernel
def L_Model_allEntries (σ : zSt) : Nat → Nat → Int32 → Int32 → Option (Int32)
  | 0, _, _, _ => none
  | n + 1, 0, x1, x2 => if (σ.1 4 81 6) ≤ x2 then some x1 else ((F_Model_entriesOf x2 σ).bind fun r2 => L_Model_allEntries σ n 0 (x1 + r2) (x2 + (1 : Int32)))
  | _ + 1, _, _, _ => none
theorem e_Model_allEntries_0 (σ : zSt) (n : Nat) (x1 : Int32) (x2 : Int32) : L_Model_allEntries σ (n + 1) 0 x1 x2 = (if (σ.1 4 81 6) ≤ x2 then some x1 else ((F_Model_entriesOf x2 σ).bind fun r2 => L_Model_allEntries σ n 0 (x1 + r2) (x2 + (1 : Int32)))) := rfl
set_option maxHeartbeats 4000000 in
set_option maxRecDepth 100000 in
theorem w_Model_allEntries {l : Launch} {G : zLA} {p : Program} {e : Env} {s : State} {m : MethodId} {args : Array Value} {below : List Frame} {meth : Method} {c : Code} (C : zCx G p s m args meth c "VillageWavesModel" b_Model_allEntries 3 (some .int)) (hm : zml G) {σ : zSt} {r : Int32} : ∀ n : Nat, (∀ (x1 : Int32) (x2 : Int32), L_Model_allEntries σ n 0 x1 x2 = some r → zWV G p l e rm_Model_allEntries s m args below meth c 3 0 0 (zQ G below args s rm_Model_allEntries (some (.int r)) σ) 4 [(0, .ref (zad G 4 80)), (1, .int x1), (2, .int x2)] [] σ) := by
  intro n
  induction n with
  | zero => exact fun _ _ hf => (by cases hf)
  | succ n ih =>
    refine ?_
    · intro x1 x2 hf
      rw [e_Model_allEntries_0] at hf
      refine z_iload_n C d_Model_allEntries_4 2 rfl rfl ?_
      refine z_aload_n C d_Model_allEntries_5 0 rfl rfl ?_
      refine gf_Model_7 C (zm4 hm 80 rfl) rfl rfl d_Model_allEntries_6 ?_
      refine z_bipush C d_Model_allEntries_9 zkb_6 ?_
      refine z_iald C (zm4 hm 81 rfl) rfl (inb_in (by decide)) zc_6 d_Model_allEntries_11 ?_
      refine z_icmp_ge (tgt := 29) C d_Model_allEntries_12 rfl (fun h3 => ?_) (fun h3 => ?_)
      · have hf := iff_t hf h3
        refine z_iload_n C d_Model_allEntries_29 1 rfl rfl ?_
        cases hf
        exact z_iret C rfl (Nat.le_of_ble_eq_true rfl) (Nat.le_of_ble_eq_true rfl) d_Model_allEntries_30
      · have hf := iff_f hf h3
        refine z_iload_n C d_Model_allEntries_15 1 rfl rfl ?_
        refine z_aload_n C d_Model_allEntries_16 0 rfl rfl ?_
        refine z_iload_n C d_Model_allEntries_17 2 rfl rfl ?_
        obtain ⟨r2, h1, hf⟩ := bd_s hf
        refine z_cVi C kl_Model_213 rfl (c_Model_entriesOf hm h1) (zm4 hm 80 rfl) rfl rfl rfl (Nat.le_of_ble_eq_true rfl) ⟨(Nat.le_of_ble_eq_true rfl), (Nat.le_of_ble_eq_true rfl)⟩ ⟨(Nat.le_of_ble_eq_true rfl), (Nat.le_of_ble_eq_true rfl)⟩ d_Model_allEntries_18 ?_
        refine z_iadd C d_Model_allEntries_21 ?_
        refine z_istore_n C d_Model_allEntries_22 rfl (by decide) ?_
        refine z_iinc C d_Model_allEntries_23 2 rfl zki_1 (by decide) ?_
        refine z_goto (tgt := 4) C d_Model_allEntries_26 rfl ?_
        exact z_sub [2, 1, 0] rfl (ih _ _ hf)
def F_Model_allEntries (σ : zSt) : Option (Int32) :=
  L_Model_allEntries σ zK 0 (0 : Int32) (0 : Int32)
set_option maxHeartbeats 4000000 in
set_option maxRecDepth 100000 in
theorem c_Model_allEntries {l : Launch} {G : zLA} (hm : zml G) {σ : zSt} {r : Int32} (hf : F_Model_allEntries σ = some r) : zM l G y_Model_allEntries (zws y_Model_allEntries b_Model_allEntries 3 (some .int)) rm_Model_allEntries [.ref (zad G 4 80)] σ (some (.int r)) σ := by
  refine z_ofM (own := "VillageWavesModel") (lv := [(0, .ref (zad G 4 80))]) (by decide +kernel) rfl rfl (Nat.le_of_ble_eq_true rfl) (fun p e s m args below meth c C => ?_)
  rw [F_Model_allEntries] at hf
  refine z_iconst C d_Model_allEntries_0 zki_0 ?_
  refine z_istore_n C d_Model_allEntries_1 rfl (by decide) ?_
  refine z_iconst C d_Model_allEntries_2 zki_0 ?_
  refine z_istore_n C d_Model_allEntries_3 rfl (by decide) ?_
  exact z_sub [2, 1, 0] rfl ((w_Model_allEntries C hm zK) _ _ hf)
abbrev rm_Model_isCorrected : Room := { frames := 1, cells := 0, slots := 0, locals := 22 }
theorem d_Model_isCorrected_0 : decode b_Model_isCorrected 0 = .ok (.aload_n 0, 1) := by decide +kernel
theorem d_Model_isCorrected_1 : decode b_Model_isCorrected 1 = .ok (.iload_n 1, 1) := by decide +kernel
theorem d_Model_isCorrected_2 : decode b_Model_isCorrected 2 = .ok (.iconst 4, 1) := by decide +kernel
theorem d_Model_isCorrected_3 : decode b_Model_isCorrected 3 = .ok (.invokevirtual 216, 3) := by decide +kernel
theorem d_Model_isCorrected_6 : decode b_Model_isCorrected 6 = .ok (.iconst (-1), 1) := by decide +kernel
theorem d_Model_isCorrected_7 : decode b_Model_isCorrected 7 = .ok (.if_icmp .eq 7, 3) := by decide +kernel
theorem d_Model_isCorrected_10 : decode b_Model_isCorrected 10 = .ok (.iconst 1, 1) := by decide +kernel
theorem d_Model_isCorrected_11 : decode b_Model_isCorrected 11 = .ok (.goto 4, 3) := by decide +kernel
theorem d_Model_isCorrected_14 : decode b_Model_isCorrected 14 = .ok (.iconst 0, 1) := by decide +kernel
theorem d_Model_isCorrected_15 : decode b_Model_isCorrected 15 = .ok (.ireturn, 1) := by decide +kernel
def F_Model_isCorrected (a0 : Int32) (σ : zSt) : Option (Int32) :=
  (F_Model_story a0 (4 : Int32) σ).bind fun r2 => if r2 = (-1 : Int32) then some (0 : Int32) else some (1 : Int32)
set_option maxHeartbeats 4000000 in
set_option maxRecDepth 100000 in
theorem c_Model_isCorrected {l : Launch} {G : zLA} (hm : zml G) {a0 : Int32} {σ : zSt} {r : Int32} (hf : F_Model_isCorrected a0 σ = some r) : zM l G y_Model_isCorrected (zws y_Model_isCorrected b_Model_isCorrected 2 (some .boolean)) rm_Model_isCorrected [.ref (zad G 4 80), .int a0] σ (some (.int r)) σ := by
  refine z_ofM (own := "VillageWavesModel") (lv := [(0, .ref (zad G 4 80)), (1, .int a0)]) (by decide +kernel) rfl rfl (Nat.le_of_ble_eq_true rfl) (fun p e s m args below meth c C => ?_)
  rw [F_Model_isCorrected] at hf
  refine z_aload_n C d_Model_isCorrected_0 0 rfl rfl ?_
  refine z_iload_n C d_Model_isCorrected_1 1 rfl rfl ?_
  refine z_iconst C d_Model_isCorrected_2 zki_4 ?_
  obtain ⟨r2, h1, hf⟩ := bd_s hf
  refine z_cVi C kl_Model_216 rfl (c_Model_story hm h1) (zm4 hm 80 rfl) rfl rfl rfl (Nat.le_of_ble_eq_true rfl) ⟨(Nat.le_of_ble_eq_true rfl), (Nat.le_of_ble_eq_true rfl)⟩ ⟨(Nat.le_of_ble_eq_true rfl), (Nat.le_of_ble_eq_true rfl)⟩ d_Model_isCorrected_3 ?_
  refine z_iconst C d_Model_isCorrected_6 zki_m1 ?_
  refine z_icmp_eq (tgt := 14) C d_Model_isCorrected_7 rfl (fun h3 => ?_) (fun h3 => ?_)
  · have hf := iff_t hf h3
    refine z_iconst C d_Model_isCorrected_14 zki_0 ?_
    cases hf
    exact z_zret C rfl rfl (Nat.le_of_ble_eq_true rfl) (Nat.le_of_ble_eq_true rfl) d_Model_isCorrected_15
  · have hf := iff_f hf h3
    refine z_iconst C d_Model_isCorrected_10 zki_1 ?_
    refine z_goto (tgt := 15) C d_Model_isCorrected_11 rfl ?_
    cases hf
    exact z_zret C rfl rfl (Nat.le_of_ble_eq_true rfl) (Nat.le_of_ble_eq_true rfl) d_Model_isCorrected_15
abbrev rm_Model_correctedNews : Room := { frames := 2, cells := 0, slots := 0, locals := 43 }
theorem d_Model_correctedNews_0 : decode b_Model_correctedNews 0 = .ok (.iconst 0, 1) := by decide +kernel
theorem d_Model_correctedNews_1 : decode b_Model_correctedNews 1 = .ok (.istore_n 1, 1) := by decide +kernel
theorem d_Model_correctedNews_2 : decode b_Model_correctedNews 2 = .ok (.iconst 0, 1) := by decide +kernel
theorem d_Model_correctedNews_3 : decode b_Model_correctedNews 3 = .ok (.istore_n 2, 1) := by decide +kernel
theorem d_Model_correctedNews_4 : decode b_Model_correctedNews 4 = .ok (.iload_n 2, 1) := by decide +kernel
theorem d_Model_correctedNews_5 : decode b_Model_correctedNews 5 = .ok (.aload_n 0, 1) := by decide +kernel
theorem d_Model_correctedNews_6 : decode b_Model_correctedNews 6 = .ok (.getfield 7, 3) := by decide +kernel
theorem d_Model_correctedNews_9 : decode b_Model_correctedNews 9 = .ok (.bipush 7, 2) := by decide +kernel
theorem d_Model_correctedNews_11 : decode b_Model_correctedNews 11 = .ok (.iaload, 1) := by decide +kernel
theorem d_Model_correctedNews_12 : decode b_Model_correctedNews 12 = .ok (.if_icmp .ge 25, 3) := by decide +kernel
theorem d_Model_correctedNews_15 : decode b_Model_correctedNews 15 = .ok (.iload_n 1, 1) := by decide +kernel
theorem d_Model_correctedNews_16 : decode b_Model_correctedNews 16 = .ok (.aload_n 0, 1) := by decide +kernel
theorem d_Model_correctedNews_17 : decode b_Model_correctedNews 17 = .ok (.iload_n 2, 1) := by decide +kernel
theorem d_Model_correctedNews_18 : decode b_Model_correctedNews 18 = .ok (.invokevirtual 219, 3) := by decide +kernel
theorem d_Model_correctedNews_21 : decode b_Model_correctedNews 21 = .ok (.ifCond .eq 7, 3) := by decide +kernel
theorem d_Model_correctedNews_24 : decode b_Model_correctedNews 24 = .ok (.iconst 1, 1) := by decide +kernel
theorem d_Model_correctedNews_25 : decode b_Model_correctedNews 25 = .ok (.goto 4, 3) := by decide +kernel
theorem d_Model_correctedNews_28 : decode b_Model_correctedNews 28 = .ok (.iconst 0, 1) := by decide +kernel
theorem d_Model_correctedNews_29 : decode b_Model_correctedNews 29 = .ok (.iadd, 1) := by decide +kernel
theorem d_Model_correctedNews_30 : decode b_Model_correctedNews 30 = .ok (.istore_n 1, 1) := by decide +kernel
theorem d_Model_correctedNews_31 : decode b_Model_correctedNews 31 = .ok (.iinc 2 1, 3) := by decide +kernel
theorem d_Model_correctedNews_34 : decode b_Model_correctedNews 34 = .ok (.goto (-30), 3) := by decide +kernel
theorem d_Model_correctedNews_37 : decode b_Model_correctedNews 37 = .ok (.iload_n 1, 1) := by decide +kernel
theorem d_Model_correctedNews_38 : decode b_Model_correctedNews 38 = .ok (.ireturn, 1) := by decide +kernel
def L_Model_correctedNews (σ : zSt) : Nat → Nat → Int32 → Int32 → Option (Int32)
  | 0, _, _, _ => none
  | n + 1, 0, x1, x2 => if (σ.1 4 81 7) ≤ x2 then some x1 else ((F_Model_isCorrected x2 σ).bind fun r2 => if r2 = 0 then L_Model_correctedNews σ n 0 (x1 + (0 : Int32)) (x2 + (1 : Int32)) else L_Model_correctedNews σ n 0 (x1 + (1 : Int32)) (x2 + (1 : Int32)))
  | _ + 1, _, _, _ => none
theorem e_Model_correctedNews_0 (σ : zSt) (n : Nat) (x1 : Int32) (x2 : Int32) : L_Model_correctedNews σ (n + 1) 0 x1 x2 = (if (σ.1 4 81 7) ≤ x2 then some x1 else ((F_Model_isCorrected x2 σ).bind fun r2 => if r2 = 0 then L_Model_correctedNews σ n 0 (x1 + (0 : Int32)) (x2 + (1 : Int32)) else L_Model_correctedNews σ n 0 (x1 + (1 : Int32)) (x2 + (1 : Int32)))) := rfl
set_option maxHeartbeats 4000000 in
set_option maxRecDepth 100000 in
theorem w_Model_correctedNews {l : Launch} {G : zLA} {p : Program} {e : Env} {s : State} {m : MethodId} {args : Array Value} {below : List Frame} {meth : Method} {c : Code} (C : zCx G p s m args meth c "VillageWavesModel" b_Model_correctedNews 3 (some .int)) (hm : zml G) {σ : zSt} {r : Int32} : ∀ n : Nat, (∀ (x1 : Int32) (x2 : Int32), L_Model_correctedNews σ n 0 x1 x2 = some r → zWV G p l e rm_Model_correctedNews s m args below meth c 3 0 0 (zQ G below args s rm_Model_correctedNews (some (.int r)) σ) 4 [(0, .ref (zad G 4 80)), (1, .int x1), (2, .int x2)] [] σ) := by
  intro n
  induction n with
  | zero => exact fun _ _ hf => (by cases hf)
  | succ n ih =>
    refine ?_
    · intro x1 x2 hf
      rw [e_Model_correctedNews_0] at hf
      refine z_iload_n C d_Model_correctedNews_4 2 rfl rfl ?_
      refine z_aload_n C d_Model_correctedNews_5 0 rfl rfl ?_
      refine gf_Model_7 C (zm4 hm 80 rfl) rfl rfl d_Model_correctedNews_6 ?_
      refine z_bipush C d_Model_correctedNews_9 zkb_7 ?_
      refine z_iald C (zm4 hm 81 rfl) rfl (inb_in (by decide)) zc_7 d_Model_correctedNews_11 ?_
      refine z_icmp_ge (tgt := 37) C d_Model_correctedNews_12 rfl (fun h4 => ?_) (fun h4 => ?_)
      · have hf := iff_t hf h4
        refine z_iload_n C d_Model_correctedNews_37 1 rfl rfl ?_
        cases hf
        exact z_iret C rfl (Nat.le_of_ble_eq_true rfl) (Nat.le_of_ble_eq_true rfl) d_Model_correctedNews_38
      · have hf := iff_f hf h4
        refine z_iload_n C d_Model_correctedNews_15 1 rfl rfl ?_
        refine z_aload_n C d_Model_correctedNews_16 0 rfl rfl ?_
        refine z_iload_n C d_Model_correctedNews_17 2 rfl rfl ?_
        obtain ⟨r2, h1, hf⟩ := bd_s hf
        refine z_cVi C kl_Model_219 rfl (c_Model_isCorrected hm h1) (zm4 hm 80 rfl) rfl rfl rfl (Nat.le_of_ble_eq_true rfl) ⟨(Nat.le_of_ble_eq_true rfl), (Nat.le_of_ble_eq_true rfl)⟩ ⟨(Nat.le_of_ble_eq_true rfl), (Nat.le_of_ble_eq_true rfl)⟩ d_Model_correctedNews_18 ?_
        refine z_if_eq (tgt := 28) C d_Model_correctedNews_21 rfl (fun h3 => ?_) (fun h3 => ?_)
        · have hf := iff_t hf h3
          refine z_iconst C d_Model_correctedNews_28 zki_0 ?_
          refine z_iadd C d_Model_correctedNews_29 ?_
          refine z_istore_n C d_Model_correctedNews_30 rfl (by decide) ?_
          refine z_iinc C d_Model_correctedNews_31 2 rfl zki_1 (by decide) ?_
          refine z_goto (tgt := 4) C d_Model_correctedNews_34 rfl ?_
          exact z_sub [2, 1, 0] rfl (ih _ _ hf)
        · have hf := iff_f hf h3
          refine z_iconst C d_Model_correctedNews_24 zki_1 ?_
          refine z_goto (tgt := 29) C d_Model_correctedNews_25 rfl ?_
          refine z_iadd C d_Model_correctedNews_29 ?_
          refine z_istore_n C d_Model_correctedNews_30 rfl (by decide) ?_
          refine z_iinc C d_Model_correctedNews_31 2 rfl zki_1 (by decide) ?_
          refine z_goto (tgt := 4) C d_Model_correctedNews_34 rfl ?_
          exact z_sub [2, 1, 0] rfl (ih _ _ hf)
def F_Model_correctedNews (σ : zSt) : Option (Int32) :=
  L_Model_correctedNews σ zK 0 (0 : Int32) (0 : Int32)
set_option maxHeartbeats 4000000 in
set_option maxRecDepth 100000 in
theorem c_Model_correctedNews {l : Launch} {G : zLA} (hm : zml G) {σ : zSt} {r : Int32} (hf : F_Model_correctedNews σ = some r) : zM l G y_Model_correctedNews (zws y_Model_correctedNews b_Model_correctedNews 3 (some .int)) rm_Model_correctedNews [.ref (zad G 4 80)] σ (some (.int r)) σ := by
  refine z_ofM (own := "VillageWavesModel") (lv := [(0, .ref (zad G 4 80))]) (by decide +kernel) rfl rfl (Nat.le_of_ble_eq_true rfl) (fun p e s m args below meth c C => ?_)
  rw [F_Model_correctedNews] at hf
  refine z_iconst C d_Model_correctedNews_0 zki_0 ?_
  refine z_istore_n C d_Model_correctedNews_1 rfl (by decide) ?_
  refine z_iconst C d_Model_correctedNews_2 zki_0 ?_
  refine z_istore_n C d_Model_correctedNews_3 rfl (by decide) ?_
  exact z_sub [2, 1, 0] rfl ((w_Model_correctedNews C hm zK) _ _ hf)
abbrev rm_Model_count : Room := { frames := 4, cells := 0, slots := 0, locals := 89 }
theorem d_Model_count_0 : decode b_Model_count 0 = .ok (.aload_n 0, 1) := by decide +kernel
theorem d_Model_count_1 : decode b_Model_count 1 = .ok (.iconst 0, 1) := by decide +kernel
theorem d_Model_count_2 : decode b_Model_count 2 = .ok (.putfield 48, 3) := by decide +kernel
theorem d_Model_count_5 : decode b_Model_count 5 = .ok (.iload_n 1, 1) := by decide +kernel
theorem d_Model_count_6 : decode b_Model_count 6 = .ok (.tableswitch 41 11 13 #[26, 31, 36], 26) := by decide +kernel
theorem d_Model_count_32 : decode b_Model_count 32 = .ok (.aload_n 0, 1) := by decide +kernel
theorem d_Model_count_33 : decode b_Model_count 33 = .ok (.invokevirtual 222, 3) := by decide +kernel
theorem d_Model_count_36 : decode b_Model_count 36 = .ok (.ireturn, 1) := by decide +kernel
theorem d_Model_count_37 : decode b_Model_count 37 = .ok (.aload_n 0, 1) := by decide +kernel
theorem d_Model_count_38 : decode b_Model_count 38 = .ok (.invokevirtual 225, 3) := by decide +kernel
theorem d_Model_count_41 : decode b_Model_count 41 = .ok (.ireturn, 1) := by decide +kernel
theorem d_Model_count_42 : decode b_Model_count 42 = .ok (.aload_n 0, 1) := by decide +kernel
theorem d_Model_count_43 : decode b_Model_count 43 = .ok (.invokevirtual 228, 3) := by decide +kernel
theorem d_Model_count_46 : decode b_Model_count 46 = .ok (.ireturn, 1) := by decide +kernel
theorem d_Model_count_47 : decode b_Model_count 47 = .ok (.iload_n 1, 1) := by decide +kernel
theorem d_Model_count_48 : decode b_Model_count 48 = .ok (.iconst 0, 1) := by decide +kernel
theorem d_Model_count_49 : decode b_Model_count 49 = .ok (.bipush 10, 2) := by decide +kernel
theorem d_Model_count_51 : decode b_Model_count 51 = .ok (.invokestatic 51, 3) := by decide +kernel
theorem d_Model_count_54 : decode b_Model_count 54 = .ok (.ifCond .eq 12, 3) := by decide +kernel
theorem d_Model_count_57 : decode b_Model_count 57 = .ok (.aload_n 0, 1) := by decide +kernel
theorem d_Model_count_58 : decode b_Model_count 58 = .ok (.getfield 7, 3) := by decide +kernel
theorem d_Model_count_61 : decode b_Model_count 61 = .ok (.iload_n 1, 1) := by decide +kernel
theorem d_Model_count_62 : decode b_Model_count 62 = .ok (.iaload, 1) := by decide +kernel
theorem d_Model_count_63 : decode b_Model_count 63 = .ok (.goto 8, 3) := by decide +kernel
theorem d_Model_count_66 : decode b_Model_count 66 = .ok (.aload_n 0, 1) := by decide +kernel
theorem d_Model_count_67 : decode b_Model_count 67 = .ok (.iconst 1, 1) := by decide +kernel
theorem d_Model_count_68 : decode b_Model_count 68 = .ok (.invokevirtual 62, 3) := by decide +kernel
theorem d_Model_count_71 : decode b_Model_count 71 = .ok (.ireturn, 1) := by decide +kernel
def F_Model_count (a0 : Int32) (σ : zSt) : Option (Int32 × zSt) :=
  if a0 = (11 : Int32) then ((F_Model_quietHouses (zst σ 4 80 8 (0 : Int32))).bind fun r3 => some (r3, (zst σ 4 80 8 (0 : Int32)))) else (if a0 = (12 : Int32) then ((F_Model_correctedNews (zst σ 4 80 8 (0 : Int32))).bind fun r6 => some (r6, (zst σ 4 80 8 (0 : Int32)))) else (if a0 = (13 : Int32) then ((F_Model_allEntries (zst σ 4 80 8 (0 : Int32))).bind fun r9 => some (r9, (zst σ 4 80 8 (0 : Int32)))) else ((F_Model_isBetween a0 (0 : Int32) (10 : Int32) (zst σ 4 80 8 (0 : Int32))).bind fun r11 => if r11 = 0 then (bd2 (F_Model_fail (1 : Int32) (zst σ 4 80 8 (0 : Int32))) fun r13 σ14 => some (r13, σ14)) else (if inb a0 2592 = true then some (((zst σ 4 80 8 (0 : Int32)).1 4 81 a0.toNatClampNeg), (zst σ 4 80 8 (0 : Int32))) else none))))
set_option maxHeartbeats 4000000 in
set_option maxRecDepth 100000 in
theorem c_Model_count {l : Launch} {G : zLA} (hm : zml G) {a0 : Int32} {σ : zSt} {r : Int32} {σ' : zSt} (hf : F_Model_count a0 σ = some (r, σ')) : zM l G y_Model_count (zws y_Model_count b_Model_count 2 (some .int)) rm_Model_count [.ref (zad G 4 80), .int a0] σ (some (.int r)) σ' := by
  refine z_ofM (own := "VillageWavesModel") (lv := [(0, .ref (zad G 4 80)), (1, .int a0)]) (by decide +kernel) rfl rfl (Nat.le_of_ble_eq_true rfl) (fun p e s m args below meth c C => ?_)
  rw [F_Model_count] at hf
  refine z_aload_n C d_Model_count_0 0 rfl rfl ?_
  refine z_iconst C d_Model_count_1 zki_0 ?_
  refine pf_Model_48 C (zm4 hm 80 rfl) rfl (Nat.le_of_ble_eq_true rfl) rfl d_Model_count_2 ?_
  refine z_iload_n C d_Model_count_5 1 rfl rfl ?_
  by_cases h1 : a0 = (11 : Int32)
  · have hf := iff_t hf h1
    refine z_tin (off := 26) (tgt := 32) C d_Model_count_6 (by rw [h1]; decide) (by rw [h1]; decide) (by rw [h1]; rfl) rfl ?_
    refine z_aload_n C d_Model_count_32 0 rfl rfl ?_
    obtain ⟨r3, h2, hf⟩ := bd_s hf
    refine z_cVi C kl_Model_222 rfl (c_Model_quietHouses hm h2) (zm4 hm 80 rfl) rfl rfl rfl (Nat.le_of_ble_eq_true rfl) ⟨(Nat.le_of_ble_eq_true rfl), (Nat.le_of_ble_eq_true rfl)⟩ ⟨(Nat.le_of_ble_eq_true rfl), (Nat.le_of_ble_eq_true rfl)⟩ d_Model_count_33 ?_
    cases hf
    exact z_iret C rfl (Nat.le_of_ble_eq_true rfl) (Nat.le_of_ble_eq_true rfl) d_Model_count_36
  · have hf := iff_f hf h1
    by_cases h4 : a0 = (12 : Int32)
    · have hf := iff_t hf h4
      refine z_tin (off := 31) (tgt := 37) C d_Model_count_6 (by rw [h4]; decide) (by rw [h4]; decide) (by rw [h4]; rfl) rfl ?_
      refine z_aload_n C d_Model_count_37 0 rfl rfl ?_
      obtain ⟨r6, h5, hf⟩ := bd_s hf
      refine z_cVi C kl_Model_225 rfl (c_Model_correctedNews hm h5) (zm4 hm 80 rfl) rfl rfl rfl (Nat.le_of_ble_eq_true rfl) ⟨(Nat.le_of_ble_eq_true rfl), (Nat.le_of_ble_eq_true rfl)⟩ ⟨(Nat.le_of_ble_eq_true rfl), (Nat.le_of_ble_eq_true rfl)⟩ d_Model_count_38 ?_
      cases hf
      exact z_iret C rfl (Nat.le_of_ble_eq_true rfl) (Nat.le_of_ble_eq_true rfl) d_Model_count_41
    · have hf := iff_f hf h4
      by_cases h7 : a0 = (13 : Int32)
      · have hf := iff_t hf h7
        refine z_tin (off := 36) (tgt := 42) C d_Model_count_6 (by rw [h7]; decide) (by rw [h7]; decide) (by rw [h7]; rfl) rfl ?_
        refine z_aload_n C d_Model_count_42 0 rfl rfl ?_
        obtain ⟨r9, h8, hf⟩ := bd_s hf
        refine z_cVi C kl_Model_228 rfl (c_Model_allEntries hm h8) (zm4 hm 80 rfl) rfl rfl rfl (Nat.le_of_ble_eq_true rfl) ⟨(Nat.le_of_ble_eq_true rfl), (Nat.le_of_ble_eq_true rfl)⟩ ⟨(Nat.le_of_ble_eq_true rfl), (Nat.le_of_ble_eq_true rfl)⟩ d_Model_count_43 ?_
        cases hf
        exact z_iret C rfl (Nat.le_of_ble_eq_true rfl) (Nat.le_of_ble_eq_true rfl) d_Model_count_46
      · have hf := iff_f hf h7
        refine z_tout (tgt := 47) C d_Model_count_6 (ztab_11_13 h1 h4 h7) rfl ?_
        refine z_iload_n C d_Model_count_47 1 rfl rfl ?_
        refine z_iconst C d_Model_count_48 zki_0 ?_
        refine z_bipush C d_Model_count_49 zkb_10 ?_
        obtain ⟨r11, h10, hf⟩ := bd_s hf
        refine z_cSi C kl_Model_51 (c_Model_isBetween h10) rfl rfl (Nat.le_of_ble_eq_true rfl) ⟨(Nat.le_of_ble_eq_true rfl), (Nat.le_of_ble_eq_true rfl)⟩ ⟨(Nat.le_of_ble_eq_true rfl), (Nat.le_of_ble_eq_true rfl)⟩ d_Model_count_51 ?_
        refine z_if_eq (tgt := 66) C d_Model_count_54 rfl (fun h16 => ?_) (fun h16 => ?_)
        · have hf := iff_t hf h16
          refine z_aload_n C d_Model_count_66 0 rfl rfl ?_
          refine z_iconst C d_Model_count_67 zki_1 ?_
          obtain ⟨r13, σ14, h12, hf⟩ := bd2_s hf
          refine z_cVi C kl_Model_62 rfl (c_Model_fail hm h12) (zm4 hm 80 rfl) rfl rfl rfl (Nat.le_of_ble_eq_true rfl) ⟨(Nat.le_of_ble_eq_true rfl), (Nat.le_of_ble_eq_true rfl)⟩ ⟨(Nat.le_of_ble_eq_true rfl), (Nat.le_of_ble_eq_true rfl)⟩ d_Model_count_68 ?_
          cases hf
          exact z_iret C rfl (Nat.le_of_ble_eq_true rfl) (Nat.le_of_ble_eq_true rfl) d_Model_count_71
        · have hf := iff_f hf h16
          refine z_aload_n C d_Model_count_57 0 rfl rfl ?_
          refine gf_Model_7 C (zm4 hm 80 rfl) rfl rfl d_Model_count_58 ?_
          refine z_iload_n C d_Model_count_61 1 rfl rfl ?_
          obtain ⟨h15, hf⟩ := iff_g hf
          refine z_iald C (zm4 hm 81 rfl) rfl (inb_in h15) rfl d_Model_count_62 ?_
          refine z_goto (tgt := 71) C d_Model_count_63 rfl ?_
          cases hf
          exact z_iret C rfl (Nat.le_of_ble_eq_true rfl) (Nat.le_of_ble_eq_true rfl) d_Model_count_71
abbrev rm_Model_distance : Room := { frames := 1, cells := 0, slots := 0, locals := 22 }
theorem d_Model_distance_0 : decode b_Model_distance 0 = .ok (.aload_n 0, 1) := by decide +kernel
theorem d_Model_distance_1 : decode b_Model_distance 1 = .ok (.iload_n 1, 1) := by decide +kernel
theorem d_Model_distance_2 : decode b_Model_distance 2 = .ok (.iconst 0, 1) := by decide +kernel
theorem d_Model_distance_3 : decode b_Model_distance 3 = .ok (.invokevirtual 191, 3) := by decide +kernel
theorem d_Model_distance_6 : decode b_Model_distance 6 = .ok (.aload_n 0, 1) := by decide +kernel
theorem d_Model_distance_7 : decode b_Model_distance 7 = .ok (.iload_n 2, 1) := by decide +kernel
theorem d_Model_distance_8 : decode b_Model_distance 8 = .ok (.iconst 0, 1) := by decide +kernel
theorem d_Model_distance_9 : decode b_Model_distance 9 = .ok (.invokevirtual 191, 3) := by decide +kernel
theorem d_Model_distance_12 : decode b_Model_distance 12 = .ok (.isub, 1) := by decide +kernel
theorem d_Model_distance_13 : decode b_Model_distance 13 = .ok (.istore_n 3, 1) := by decide +kernel
theorem d_Model_distance_14 : decode b_Model_distance 14 = .ok (.aload_n 0, 1) := by decide +kernel
theorem d_Model_distance_15 : decode b_Model_distance 15 = .ok (.iload_n 1, 1) := by decide +kernel
theorem d_Model_distance_16 : decode b_Model_distance 16 = .ok (.iconst 1, 1) := by decide +kernel
theorem d_Model_distance_17 : decode b_Model_distance 17 = .ok (.invokevirtual 191, 3) := by decide +kernel
theorem d_Model_distance_20 : decode b_Model_distance 20 = .ok (.aload_n 0, 1) := by decide +kernel
theorem d_Model_distance_21 : decode b_Model_distance 21 = .ok (.iload_n 2, 1) := by decide +kernel
theorem d_Model_distance_22 : decode b_Model_distance 22 = .ok (.iconst 1, 1) := by decide +kernel
theorem d_Model_distance_23 : decode b_Model_distance 23 = .ok (.invokevirtual 191, 3) := by decide +kernel
theorem d_Model_distance_26 : decode b_Model_distance 26 = .ok (.isub, 1) := by decide +kernel
theorem d_Model_distance_27 : decode b_Model_distance 27 = .ok (.istore 4, 2) := by decide +kernel
theorem d_Model_distance_29 : decode b_Model_distance 29 = .ok (.iload_n 3, 1) := by decide +kernel
theorem d_Model_distance_30 : decode b_Model_distance 30 = .ok (.iload_n 3, 1) := by decide +kernel
theorem d_Model_distance_31 : decode b_Model_distance 31 = .ok (.imul, 1) := by decide +kernel
theorem d_Model_distance_32 : decode b_Model_distance 32 = .ok (.iload 4, 2) := by decide +kernel
theorem d_Model_distance_34 : decode b_Model_distance 34 = .ok (.iload 4, 2) := by decide +kernel
theorem d_Model_distance_36 : decode b_Model_distance 36 = .ok (.imul, 1) := by decide +kernel
theorem d_Model_distance_37 : decode b_Model_distance 37 = .ok (.iadd, 1) := by decide +kernel
theorem d_Model_distance_38 : decode b_Model_distance 38 = .ok (.ireturn, 1) := by decide +kernel
def F_Model_distance (a0 : Int32) (a1 : Int32) (σ : zSt) : Option (Int32) :=
  (F_Model_of a0 (0 : Int32) σ).bind fun r2 => (F_Model_of a1 (0 : Int32) σ).bind fun r4 => (F_Model_of a0 (1 : Int32) σ).bind fun r6 => (F_Model_of a1 (1 : Int32) σ).bind fun r8 => some (((r2 - r4) * (r2 - r4)) + ((r6 - r8) * (r6 - r8)))
set_option maxHeartbeats 4000000 in
set_option maxRecDepth 100000 in
theorem c_Model_distance {l : Launch} {G : zLA} (hm : zml G) {a0 : Int32} {a1 : Int32} {σ : zSt} {r : Int32} (hf : F_Model_distance a0 a1 σ = some r) : zM l G y_Model_distance (zws y_Model_distance b_Model_distance 5 (some .int)) rm_Model_distance [.ref (zad G 4 80), .int a0, .int a1] σ (some (.int r)) σ := by
  refine z_ofM (own := "VillageWavesModel") (lv := [(0, .ref (zad G 4 80)), (1, .int a0), (2, .int a1)]) (by decide +kernel) rfl rfl (Nat.le_of_ble_eq_true rfl) (fun p e s m args below meth c C => ?_)
  rw [F_Model_distance] at hf
  refine z_aload_n C d_Model_distance_0 0 rfl rfl ?_
  refine z_iload_n C d_Model_distance_1 1 rfl rfl ?_
  refine z_iconst C d_Model_distance_2 zki_0 ?_
  obtain ⟨r2, h1, hf⟩ := bd_s hf
  refine z_cVi C kl_Model_191 rfl (c_Model_of hm h1) (zm4 hm 80 rfl) rfl rfl rfl (Nat.le_of_ble_eq_true rfl) ⟨(Nat.le_of_ble_eq_true rfl), (Nat.le_of_ble_eq_true rfl)⟩ ⟨(Nat.le_of_ble_eq_true rfl), (Nat.le_of_ble_eq_true rfl)⟩ d_Model_distance_3 ?_
  refine z_aload_n C d_Model_distance_6 0 rfl rfl ?_
  refine z_iload_n C d_Model_distance_7 2 rfl rfl ?_
  refine z_iconst C d_Model_distance_8 zki_0 ?_
  obtain ⟨r4, h3, hf⟩ := bd_s hf
  refine z_cVi C kl_Model_191 rfl (c_Model_of hm h3) (zm4 hm 80 rfl) rfl rfl rfl (Nat.le_of_ble_eq_true rfl) ⟨(Nat.le_of_ble_eq_true rfl), (Nat.le_of_ble_eq_true rfl)⟩ ⟨(Nat.le_of_ble_eq_true rfl), (Nat.le_of_ble_eq_true rfl)⟩ d_Model_distance_9 ?_
  refine z_isub C d_Model_distance_12 ?_
  refine z_istore_n C d_Model_distance_13 rfl (by decide) ?_
  refine z_aload_n C d_Model_distance_14 1 rfl rfl ?_
  refine z_iload_n C d_Model_distance_15 2 rfl rfl ?_
  refine z_iconst C d_Model_distance_16 zki_1 ?_
  obtain ⟨r6, h5, hf⟩ := bd_s hf
  refine z_cVi C kl_Model_191 rfl (c_Model_of hm h5) (zm4 hm 80 rfl) rfl rfl rfl (Nat.le_of_ble_eq_true rfl) ⟨(Nat.le_of_ble_eq_true rfl), (Nat.le_of_ble_eq_true rfl)⟩ ⟨(Nat.le_of_ble_eq_true rfl), (Nat.le_of_ble_eq_true rfl)⟩ d_Model_distance_17 ?_
  refine z_aload_n C d_Model_distance_20 1 rfl rfl ?_
  refine z_iload_n C d_Model_distance_21 3 rfl rfl ?_
  refine z_iconst C d_Model_distance_22 zki_1 ?_
  obtain ⟨r8, h7, hf⟩ := bd_s hf
  refine z_cVi C kl_Model_191 rfl (c_Model_of hm h7) (zm4 hm 80 rfl) rfl rfl rfl (Nat.le_of_ble_eq_true rfl) ⟨(Nat.le_of_ble_eq_true rfl), (Nat.le_of_ble_eq_true rfl)⟩ ⟨(Nat.le_of_ble_eq_true rfl), (Nat.le_of_ble_eq_true rfl)⟩ d_Model_distance_23 ?_
  refine z_isub C d_Model_distance_26 ?_
  refine z_istore C d_Model_distance_27 (by decide) ?_
  refine z_iload_n C d_Model_distance_29 1 rfl rfl ?_
  refine z_iload_n C d_Model_distance_30 1 rfl rfl ?_
  refine z_imul C d_Model_distance_31 ?_
  refine z_iload C d_Model_distance_32 0 rfl ?_
  refine z_iload C d_Model_distance_34 0 rfl ?_
  refine z_imul C d_Model_distance_36 ?_
  refine z_iadd C d_Model_distance_37 ?_
  cases hf
  exact z_iret C rfl (Nat.le_of_ble_eq_true rfl) (Nat.le_of_ble_eq_true rfl) d_Model_distance_38
abbrev rm_Model_isInRange : Room := { frames := 2, cells := 0, slots := 0, locals := 46 }
theorem d_Model_isInRange_0 : decode b_Model_isInRange 0 = .ok (.iload_n 1, 1) := by decide +kernel
theorem d_Model_isInRange_1 : decode b_Model_isInRange 1 = .ok (.iload_n 2, 1) := by decide +kernel
theorem d_Model_isInRange_2 : decode b_Model_isInRange 2 = .ok (.if_icmp .eq 29, 3) := by decide +kernel
theorem d_Model_isInRange_5 : decode b_Model_isInRange 5 = .ok (.aload_n 0, 1) := by decide +kernel
theorem d_Model_isInRange_6 : decode b_Model_isInRange 6 = .ok (.iload_n 1, 1) := by decide +kernel
theorem d_Model_isInRange_7 : decode b_Model_isInRange 7 = .ok (.iload_n 2, 1) := by decide +kernel
theorem d_Model_isInRange_8 : decode b_Model_isInRange 8 = .ok (.invokevirtual 231, 3) := by decide +kernel
theorem d_Model_isInRange_11 : decode b_Model_isInRange 11 = .ok (.aload_n 0, 1) := by decide +kernel
theorem d_Model_isInRange_12 : decode b_Model_isInRange 12 = .ok (.iload_n 1, 1) := by decide +kernel
theorem d_Model_isInRange_13 : decode b_Model_isInRange 13 = .ok (.iconst 2, 1) := by decide +kernel
theorem d_Model_isInRange_14 : decode b_Model_isInRange 14 = .ok (.invokevirtual 191, 3) := by decide +kernel
theorem d_Model_isInRange_17 : decode b_Model_isInRange 17 = .ok (.aload_n 0, 1) := by decide +kernel
theorem d_Model_isInRange_18 : decode b_Model_isInRange 18 = .ok (.iload_n 1, 1) := by decide +kernel
theorem d_Model_isInRange_19 : decode b_Model_isInRange 19 = .ok (.iconst 2, 1) := by decide +kernel
theorem d_Model_isInRange_20 : decode b_Model_isInRange 20 = .ok (.invokevirtual 191, 3) := by decide +kernel
theorem d_Model_isInRange_23 : decode b_Model_isInRange 23 = .ok (.imul, 1) := by decide +kernel
theorem d_Model_isInRange_24 : decode b_Model_isInRange 24 = .ok (.if_icmp .gt 7, 3) := by decide +kernel
theorem d_Model_isInRange_27 : decode b_Model_isInRange 27 = .ok (.iconst 1, 1) := by decide +kernel
theorem d_Model_isInRange_28 : decode b_Model_isInRange 28 = .ok (.goto 4, 3) := by decide +kernel
theorem d_Model_isInRange_31 : decode b_Model_isInRange 31 = .ok (.iconst 0, 1) := by decide +kernel
theorem d_Model_isInRange_32 : decode b_Model_isInRange 32 = .ok (.ireturn, 1) := by decide +kernel
def F_Model_isInRange (a0 : Int32) (a1 : Int32) (σ : zSt) : Option (Int32) :=
  if a0 = a1 then some (0 : Int32) else ((F_Model_distance a0 a1 σ).bind fun r2 => (F_Model_of a0 (2 : Int32) σ).bind fun r4 => (F_Model_of a0 (2 : Int32) σ).bind fun r6 => if (r4 * r6) < r2 then some (0 : Int32) else some (1 : Int32))
set_option maxHeartbeats 4000000 in
set_option maxRecDepth 100000 in
theorem c_Model_isInRange {l : Launch} {G : zLA} (hm : zml G) {a0 : Int32} {a1 : Int32} {σ : zSt} {r : Int32} (hf : F_Model_isInRange a0 a1 σ = some r) : zM l G y_Model_isInRange (zws y_Model_isInRange b_Model_isInRange 3 (some .boolean)) rm_Model_isInRange [.ref (zad G 4 80), .int a0, .int a1] σ (some (.int r)) σ := by
  refine z_ofM (own := "VillageWavesModel") (lv := [(0, .ref (zad G 4 80)), (1, .int a0), (2, .int a1)]) (by decide +kernel) rfl rfl (Nat.le_of_ble_eq_true rfl) (fun p e s m args below meth c C => ?_)
  rw [F_Model_isInRange] at hf
  refine z_iload_n C d_Model_isInRange_0 1 rfl rfl ?_
  refine z_iload_n C d_Model_isInRange_1 2 rfl rfl ?_
  refine z_icmp_eq (tgt := 31) C d_Model_isInRange_2 rfl (fun h8 => ?_) (fun h8 => ?_)
  · have hf := iff_t hf h8
    refine z_iconst C d_Model_isInRange_31 zki_0 ?_
    cases hf
    exact z_zret C rfl rfl (Nat.le_of_ble_eq_true rfl) (Nat.le_of_ble_eq_true rfl) d_Model_isInRange_32
  · have hf := iff_f hf h8
    refine z_aload_n C d_Model_isInRange_5 0 rfl rfl ?_
    refine z_iload_n C d_Model_isInRange_6 1 rfl rfl ?_
    refine z_iload_n C d_Model_isInRange_7 2 rfl rfl ?_
    obtain ⟨r2, h1, hf⟩ := bd_s hf
    refine z_cVi C kl_Model_231 rfl (c_Model_distance hm h1) (zm4 hm 80 rfl) rfl rfl rfl (Nat.le_of_ble_eq_true rfl) ⟨(Nat.le_of_ble_eq_true rfl), (Nat.le_of_ble_eq_true rfl)⟩ ⟨(Nat.le_of_ble_eq_true rfl), (Nat.le_of_ble_eq_true rfl)⟩ d_Model_isInRange_8 ?_
    refine z_aload_n C d_Model_isInRange_11 0 rfl rfl ?_
    refine z_iload_n C d_Model_isInRange_12 1 rfl rfl ?_
    refine z_iconst C d_Model_isInRange_13 zki_2 ?_
    obtain ⟨r4, h3, hf⟩ := bd_s hf
    refine z_cVi C kl_Model_191 rfl (c_Model_of hm h3) (zm4 hm 80 rfl) rfl rfl rfl (Nat.le_of_ble_eq_true rfl) ⟨(Nat.le_of_ble_eq_true rfl), (Nat.le_of_ble_eq_true rfl)⟩ ⟨(Nat.le_of_ble_eq_true rfl), (Nat.le_of_ble_eq_true rfl)⟩ d_Model_isInRange_14 ?_
    refine z_aload_n C d_Model_isInRange_17 0 rfl rfl ?_
    refine z_iload_n C d_Model_isInRange_18 1 rfl rfl ?_
    refine z_iconst C d_Model_isInRange_19 zki_2 ?_
    obtain ⟨r6, h5, hf⟩ := bd_s hf
    refine z_cVi C kl_Model_191 rfl (c_Model_of hm h5) (zm4 hm 80 rfl) rfl rfl rfl (Nat.le_of_ble_eq_true rfl) ⟨(Nat.le_of_ble_eq_true rfl), (Nat.le_of_ble_eq_true rfl)⟩ ⟨(Nat.le_of_ble_eq_true rfl), (Nat.le_of_ble_eq_true rfl)⟩ d_Model_isInRange_20 ?_
    refine z_imul C d_Model_isInRange_23 ?_
    refine z_icmp_gt (tgt := 31) C d_Model_isInRange_24 rfl (fun h7 => ?_) (fun h7 => ?_)
    · have hf := iff_t hf h7
      refine z_iconst C d_Model_isInRange_31 zki_0 ?_
      cases hf
      exact z_zret C rfl rfl (Nat.le_of_ble_eq_true rfl) (Nat.le_of_ble_eq_true rfl) d_Model_isInRange_32
    · have hf := iff_f hf h7
      refine z_iconst C d_Model_isInRange_27 zki_1 ?_
      refine z_goto (tgt := 32) C d_Model_isInRange_28 rfl ?_
      cases hf
      exact z_zret C rfl rfl (Nat.le_of_ble_eq_true rfl) (Nat.le_of_ble_eq_true rfl) d_Model_isInRange_32
abbrev rm_Model_housesInRange : Room := { frames := 3, cells := 0, slots := 0, locals := 68 }
theorem d_Model_housesInRange_0 : decode b_Model_housesInRange 0 = .ok (.iconst 0, 1) := by decide +kernel
theorem d_Model_housesInRange_1 : decode b_Model_housesInRange 1 = .ok (.istore_n 2, 1) := by decide +kernel
theorem d_Model_housesInRange_2 : decode b_Model_housesInRange 2 = .ok (.iconst 0, 1) := by decide +kernel
theorem d_Model_housesInRange_3 : decode b_Model_housesInRange 3 = .ok (.istore_n 3, 1) := by decide +kernel
theorem d_Model_housesInRange_4 : decode b_Model_housesInRange 4 = .ok (.iload_n 3, 1) := by decide +kernel
theorem d_Model_housesInRange_5 : decode b_Model_housesInRange 5 = .ok (.aload_n 0, 1) := by decide +kernel
theorem d_Model_housesInRange_6 : decode b_Model_housesInRange 6 = .ok (.getfield 7, 3) := by decide +kernel
theorem d_Model_housesInRange_9 : decode b_Model_housesInRange 9 = .ok (.bipush 6, 2) := by decide +kernel
theorem d_Model_housesInRange_11 : decode b_Model_housesInRange 11 = .ok (.iaload, 1) := by decide +kernel
theorem d_Model_housesInRange_12 : decode b_Model_housesInRange 12 = .ok (.if_icmp .ge 28, 3) := by decide +kernel
theorem d_Model_housesInRange_15 : decode b_Model_housesInRange 15 = .ok (.iload_n 2, 1) := by decide +kernel
theorem d_Model_housesInRange_16 : decode b_Model_housesInRange 16 = .ok (.aload_n 0, 1) := by decide +kernel
theorem d_Model_housesInRange_17 : decode b_Model_housesInRange 17 = .ok (.iload_n 1, 1) := by decide +kernel
theorem d_Model_housesInRange_18 : decode b_Model_housesInRange 18 = .ok (.iload_n 3, 1) := by decide +kernel
theorem d_Model_housesInRange_19 : decode b_Model_housesInRange 19 = .ok (.invokevirtual 234, 3) := by decide +kernel
theorem d_Model_housesInRange_22 : decode b_Model_housesInRange 22 = .ok (.ifCond .eq 9, 3) := by decide +kernel
theorem d_Model_housesInRange_25 : decode b_Model_housesInRange 25 = .ok (.iconst 1, 1) := by decide +kernel
theorem d_Model_housesInRange_26 : decode b_Model_housesInRange 26 = .ok (.iload_n 3, 1) := by decide +kernel
theorem d_Model_housesInRange_27 : decode b_Model_housesInRange 27 = .ok (.ishl, 1) := by decide +kernel
theorem d_Model_housesInRange_28 : decode b_Model_housesInRange 28 = .ok (.goto 4, 3) := by decide +kernel
theorem d_Model_housesInRange_31 : decode b_Model_housesInRange 31 = .ok (.iconst 0, 1) := by decide +kernel
theorem d_Model_housesInRange_32 : decode b_Model_housesInRange 32 = .ok (.iadd, 1) := by decide +kernel
theorem d_Model_housesInRange_33 : decode b_Model_housesInRange 33 = .ok (.istore_n 2, 1) := by decide +kernel
theorem d_Model_housesInRange_34 : decode b_Model_housesInRange 34 = .ok (.iinc 3 1, 3) := by decide +kernel
theorem d_Model_housesInRange_37 : decode b_Model_housesInRange 37 = .ok (.goto (-33), 3) := by decide +kernel
theorem d_Model_housesInRange_40 : decode b_Model_housesInRange 40 = .ok (.iload_n 2, 1) := by decide +kernel
theorem d_Model_housesInRange_41 : decode b_Model_housesInRange 41 = .ok (.ireturn, 1) := by decide +kernel
def L_Model_housesInRange (σ : zSt) : Nat → Nat → Int32 → Int32 → Int32 → Option (Int32)
  | 0, _, _, _, _ => none
  | n + 1, 0, x1, x2, x3 => if (σ.1 4 81 6) ≤ x3 then some x2 else ((F_Model_isInRange x1 x3 σ).bind fun r2 => if r2 = 0 then L_Model_housesInRange σ n 0 x1 (x2 + (0 : Int32)) (x3 + (1 : Int32)) else L_Model_housesInRange σ n 0 x1 (x2 + ((1 : Int32) <<< (x3 &&& 31))) (x3 + (1 : Int32)))
  | _ + 1, _, _, _, _ => none
theorem e_Model_housesInRange_0 (σ : zSt) (n : Nat) (x1 : Int32) (x2 : Int32) (x3 : Int32) : L_Model_housesInRange σ (n + 1) 0 x1 x2 x3 = (if (σ.1 4 81 6) ≤ x3 then some x2 else ((F_Model_isInRange x1 x3 σ).bind fun r2 => if r2 = 0 then L_Model_housesInRange σ n 0 x1 (x2 + (0 : Int32)) (x3 + (1 : Int32)) else L_Model_housesInRange σ n 0 x1 (x2 + ((1 : Int32) <<< (x3 &&& 31))) (x3 + (1 : Int32)))) := rfl
set_option maxHeartbeats 4000000 in
set_option maxRecDepth 100000 in
theorem w_Model_housesInRange {l : Launch} {G : zLA} {p : Program} {e : Env} {s : State} {m : MethodId} {args : Array Value} {below : List Frame} {meth : Method} {c : Code} (C : zCx G p s m args meth c "VillageWavesModel" b_Model_housesInRange 4 (some .int)) (hm : zml G) {σ : zSt} {r : Int32} : ∀ n : Nat, (∀ (x1 : Int32) (x2 : Int32) (x3 : Int32), L_Model_housesInRange σ n 0 x1 x2 x3 = some r → zWV G p l e rm_Model_housesInRange s m args below meth c 4 0 0 (zQ G below args s rm_Model_housesInRange (some (.int r)) σ) 4 [(0, .ref (zad G 4 80)), (1, .int x1), (2, .int x2), (3, .int x3)] [] σ) := by
  intro n
  induction n with
  | zero => exact fun _ _ _ hf => (by cases hf)
  | succ n ih =>
    refine ?_
    · intro x1 x2 x3 hf
      rw [e_Model_housesInRange_0] at hf
      refine z_iload_n C d_Model_housesInRange_4 3 rfl rfl ?_
      refine z_aload_n C d_Model_housesInRange_5 0 rfl rfl ?_
      refine gf_Model_7 C (zm4 hm 80 rfl) rfl rfl d_Model_housesInRange_6 ?_
      refine z_bipush C d_Model_housesInRange_9 zkb_6 ?_
      refine z_iald C (zm4 hm 81 rfl) rfl (inb_in (by decide)) zc_6 d_Model_housesInRange_11 ?_
      refine z_icmp_ge (tgt := 40) C d_Model_housesInRange_12 rfl (fun h4 => ?_) (fun h4 => ?_)
      · have hf := iff_t hf h4
        refine z_iload_n C d_Model_housesInRange_40 2 rfl rfl ?_
        cases hf
        exact z_iret C rfl (Nat.le_of_ble_eq_true rfl) (Nat.le_of_ble_eq_true rfl) d_Model_housesInRange_41
      · have hf := iff_f hf h4
        refine z_iload_n C d_Model_housesInRange_15 2 rfl rfl ?_
        refine z_aload_n C d_Model_housesInRange_16 0 rfl rfl ?_
        refine z_iload_n C d_Model_housesInRange_17 1 rfl rfl ?_
        refine z_iload_n C d_Model_housesInRange_18 3 rfl rfl ?_
        obtain ⟨r2, h1, hf⟩ := bd_s hf
        refine z_cVi C kl_Model_234 rfl (c_Model_isInRange hm h1) (zm4 hm 80 rfl) rfl rfl rfl (Nat.le_of_ble_eq_true rfl) ⟨(Nat.le_of_ble_eq_true rfl), (Nat.le_of_ble_eq_true rfl)⟩ ⟨(Nat.le_of_ble_eq_true rfl), (Nat.le_of_ble_eq_true rfl)⟩ d_Model_housesInRange_19 ?_
        refine z_if_eq (tgt := 31) C d_Model_housesInRange_22 rfl (fun h3 => ?_) (fun h3 => ?_)
        · have hf := iff_t hf h3
          refine z_iconst C d_Model_housesInRange_31 zki_0 ?_
          refine z_iadd C d_Model_housesInRange_32 ?_
          refine z_istore_n C d_Model_housesInRange_33 rfl (by decide) ?_
          refine z_iinc C d_Model_housesInRange_34 3 rfl zki_1 (by decide) ?_
          refine z_goto (tgt := 4) C d_Model_housesInRange_37 rfl ?_
          exact z_sub [2, 3, 1, 0] rfl (ih _ _ _ hf)
        · have hf := iff_f hf h3
          refine z_iconst C d_Model_housesInRange_25 zki_1 ?_
          refine z_iload_n C d_Model_housesInRange_26 3 rfl rfl ?_
          refine z_ishl C d_Model_housesInRange_27 ?_
          refine z_goto (tgt := 32) C d_Model_housesInRange_28 rfl ?_
          refine z_iadd C d_Model_housesInRange_32 ?_
          refine z_istore_n C d_Model_housesInRange_33 rfl (by decide) ?_
          refine z_iinc C d_Model_housesInRange_34 3 rfl zki_1 (by decide) ?_
          refine z_goto (tgt := 4) C d_Model_housesInRange_37 rfl ?_
          exact z_sub [2, 3, 1, 0] rfl (ih _ _ _ hf)
def F_Model_housesInRange (a0 : Int32) (σ : zSt) : Option (Int32) :=
  L_Model_housesInRange σ zK 0 a0 (0 : Int32) (0 : Int32)
set_option maxHeartbeats 4000000 in
set_option maxRecDepth 100000 in
theorem c_Model_housesInRange {l : Launch} {G : zLA} (hm : zml G) {a0 : Int32} {σ : zSt} {r : Int32} (hf : F_Model_housesInRange a0 σ = some r) : zM l G y_Model_housesInRange (zws y_Model_housesInRange b_Model_housesInRange 4 (some .int)) rm_Model_housesInRange [.ref (zad G 4 80), .int a0] σ (some (.int r)) σ := by
  refine z_ofM (own := "VillageWavesModel") (lv := [(0, .ref (zad G 4 80)), (1, .int a0)]) (by decide +kernel) rfl rfl (Nat.le_of_ble_eq_true rfl) (fun p e s m args below meth c C => ?_)
  rw [F_Model_housesInRange] at hf
  refine z_iconst C d_Model_housesInRange_0 zki_0 ?_
  refine z_istore_n C d_Model_housesInRange_1 rfl (by decide) ?_
  refine z_iconst C d_Model_housesInRange_2 zki_0 ?_
  refine z_istore_n C d_Model_housesInRange_3 rfl (by decide) ?_
  exact z_sub [2, 3, 1, 0] rfl ((w_Model_housesInRange C hm zK) _ _ _ hf)
abbrev rm_Model_knows : Room := { frames := 2, cells := 0, slots := 0, locals := 44 }
theorem d_Model_knows_0 : decode b_Model_knows 0 = .ok (.iload_n 3, 1) := by decide +kernel
theorem d_Model_knows_1 : decode b_Model_knows 1 = .ok (.iconst 2, 1) := by decide +kernel
theorem d_Model_knows_2 : decode b_Model_knows 2 = .ok (.if_icmp .ge 22, 3) := by decide +kernel
theorem d_Model_knows_5 : decode b_Model_knows 5 = .ok (.aload_n 0, 1) := by decide +kernel
theorem d_Model_knows_6 : decode b_Model_knows 6 = .ok (.iload_n 1, 1) := by decide +kernel
theorem d_Model_knows_7 : decode b_Model_knows 7 = .ok (.iload_n 2, 1) := by decide +kernel
theorem d_Model_knows_8 : decode b_Model_knows 8 = .ok (.iconst 0, 1) := by decide +kernel
theorem d_Model_knows_9 : decode b_Model_knows 9 = .ok (.iload_n 3, 1) := by decide +kernel
theorem d_Model_knows_10 : decode b_Model_knows 10 = .ok (.iadd, 1) := by decide +kernel
theorem d_Model_knows_11 : decode b_Model_knows 11 = .ok (.invokevirtual 209, 3) := by decide +kernel
theorem d_Model_knows_14 : decode b_Model_knows 14 = .ok (.iconst 1, 1) := by decide +kernel
theorem d_Model_knows_15 : decode b_Model_knows 15 = .ok (.if_icmp .ne 7, 3) := by decide +kernel
theorem d_Model_knows_18 : decode b_Model_knows 18 = .ok (.iconst 1, 1) := by decide +kernel
theorem d_Model_knows_19 : decode b_Model_knows 19 = .ok (.goto 4, 3) := by decide +kernel
theorem d_Model_knows_22 : decode b_Model_knows 22 = .ok (.iconst 0, 1) := by decide +kernel
theorem d_Model_knows_23 : decode b_Model_knows 23 = .ok (.ireturn, 1) := by decide +kernel
theorem d_Model_knows_24 : decode b_Model_knows 24 = .ok (.aload_n 0, 1) := by decide +kernel
theorem d_Model_knows_25 : decode b_Model_knows 25 = .ok (.iload_n 2, 1) := by decide +kernel
theorem d_Model_knows_26 : decode b_Model_knows 26 = .ok (.invokevirtual 219, 3) := by decide +kernel
theorem d_Model_knows_29 : decode b_Model_knows 29 = .ok (.ifCond .eq 28, 3) := by decide +kernel
theorem d_Model_knows_32 : decode b_Model_knows 32 = .ok (.aload_n 0, 1) := by decide +kernel
theorem d_Model_knows_33 : decode b_Model_knows 33 = .ok (.iload_n 1, 1) := by decide +kernel
theorem d_Model_knows_34 : decode b_Model_knows 34 = .ok (.iload_n 2, 1) := by decide +kernel
theorem d_Model_knows_35 : decode b_Model_knows 35 = .ok (.iconst 0, 1) := by decide +kernel
theorem d_Model_knows_36 : decode b_Model_knows 36 = .ok (.invokevirtual 209, 3) := by decide +kernel
theorem d_Model_knows_39 : decode b_Model_knows 39 = .ok (.iconst 1, 1) := by decide +kernel
theorem d_Model_knows_40 : decode b_Model_knows 40 = .ok (.if_icmp .ne 17, 3) := by decide +kernel
theorem d_Model_knows_43 : decode b_Model_knows 43 = .ok (.aload_n 0, 1) := by decide +kernel
theorem d_Model_knows_44 : decode b_Model_knows 44 = .ok (.iload_n 1, 1) := by decide +kernel
theorem d_Model_knows_45 : decode b_Model_knows 45 = .ok (.iload_n 2, 1) := by decide +kernel
theorem d_Model_knows_46 : decode b_Model_knows 46 = .ok (.iconst 1, 1) := by decide +kernel
theorem d_Model_knows_47 : decode b_Model_knows 47 = .ok (.invokevirtual 209, 3) := by decide +kernel
theorem d_Model_knows_50 : decode b_Model_knows 50 = .ok (.ifCond .ne 7, 3) := by decide +kernel
theorem d_Model_knows_53 : decode b_Model_knows 53 = .ok (.iconst 1, 1) := by decide +kernel
theorem d_Model_knows_54 : decode b_Model_knows 54 = .ok (.goto 4, 3) := by decide +kernel
theorem d_Model_knows_57 : decode b_Model_knows 57 = .ok (.iconst 0, 1) := by decide +kernel
theorem d_Model_knows_58 : decode b_Model_knows 58 = .ok (.ireturn, 1) := by decide +kernel
def F_Model_knows (a0 : Int32) (a1 : Int32) (a2 : Int32) (σ : zSt) : Option (Int32) :=
  if (2 : Int32) ≤ a2 then ((F_Model_isCorrected a1 σ).bind fun r2 => if r2 = 0 then some (0 : Int32) else ((F_Model_pair a0 a1 (0 : Int32) σ).bind fun r4 => if r4 = (1 : Int32) then ((F_Model_pair a0 a1 (1 : Int32) σ).bind fun r6 => if r6 = 0 then some (1 : Int32) else some (0 : Int32)) else some (0 : Int32))) else ((F_Model_pair a0 a1 ((0 : Int32) + a2) σ).bind fun r11 => if r11 = (1 : Int32) then some (1 : Int32) else some (0 : Int32))
set_option maxHeartbeats 4000000 in
set_option maxRecDepth 100000 in
theorem c_Model_knows {l : Launch} {G : zLA} (hm : zml G) {a0 : Int32} {a1 : Int32} {a2 : Int32} {σ : zSt} {r : Int32} (hf : F_Model_knows a0 a1 a2 σ = some r) : zM l G y_Model_knows (zws y_Model_knows b_Model_knows 4 (some .boolean)) rm_Model_knows [.ref (zad G 4 80), .int a0, .int a1, .int a2] σ (some (.int r)) σ := by
  refine z_ofM (own := "VillageWavesModel") (lv := [(0, .ref (zad G 4 80)), (1, .int a0), (2, .int a1), (3, .int a2)]) (by decide +kernel) rfl rfl (Nat.le_of_ble_eq_true rfl) (fun p e s m args below meth c C => ?_)
  rw [F_Model_knows] at hf
  refine z_iload_n C d_Model_knows_0 3 rfl rfl ?_
  refine z_iconst C d_Model_knows_1 zki_2 ?_
  refine z_icmp_ge (tgt := 24) C d_Model_knows_2 rfl (fun h13 => ?_) (fun h13 => ?_)
  · have hf := iff_t hf h13
    refine z_aload_n C d_Model_knows_24 0 rfl rfl ?_
    refine z_iload_n C d_Model_knows_25 2 rfl rfl ?_
    obtain ⟨r2, h1, hf⟩ := bd_s hf
    refine z_cVi C kl_Model_219 rfl (c_Model_isCorrected hm h1) (zm4 hm 80 rfl) rfl rfl rfl (Nat.le_of_ble_eq_true rfl) ⟨(Nat.le_of_ble_eq_true rfl), (Nat.le_of_ble_eq_true rfl)⟩ ⟨(Nat.le_of_ble_eq_true rfl), (Nat.le_of_ble_eq_true rfl)⟩ d_Model_knows_26 ?_
    refine z_if_eq (tgt := 57) C d_Model_knows_29 rfl (fun h9 => ?_) (fun h9 => ?_)
    · have hf := iff_t hf h9
      refine z_iconst C d_Model_knows_57 zki_0 ?_
      cases hf
      exact z_zret C rfl rfl (Nat.le_of_ble_eq_true rfl) (Nat.le_of_ble_eq_true rfl) d_Model_knows_58
    · have hf := iff_f hf h9
      refine z_aload_n C d_Model_knows_32 0 rfl rfl ?_
      refine z_iload_n C d_Model_knows_33 1 rfl rfl ?_
      refine z_iload_n C d_Model_knows_34 2 rfl rfl ?_
      refine z_iconst C d_Model_knows_35 zki_0 ?_
      obtain ⟨r4, h3, hf⟩ := bd_s hf
      refine z_cVi C kl_Model_209 rfl (c_Model_pair hm h3) (zm4 hm 80 rfl) rfl rfl rfl (Nat.le_of_ble_eq_true rfl) ⟨(Nat.le_of_ble_eq_true rfl), (Nat.le_of_ble_eq_true rfl)⟩ ⟨(Nat.le_of_ble_eq_true rfl), (Nat.le_of_ble_eq_true rfl)⟩ d_Model_knows_36 ?_
      refine z_iconst C d_Model_knows_39 zki_1 ?_
      refine z_icmp_ne (tgt := 57) C d_Model_knows_40 rfl (fun h8 => ?_) (fun h8 => ?_)
      · have hf := iff_f hf h8
        refine z_iconst C d_Model_knows_57 zki_0 ?_
        cases hf
        exact z_zret C rfl rfl (Nat.le_of_ble_eq_true rfl) (Nat.le_of_ble_eq_true rfl) d_Model_knows_58
      · have hf := iff_t hf h8
        refine z_aload_n C d_Model_knows_43 0 rfl rfl ?_
        refine z_iload_n C d_Model_knows_44 1 rfl rfl ?_
        refine z_iload_n C d_Model_knows_45 2 rfl rfl ?_
        refine z_iconst C d_Model_knows_46 zki_1 ?_
        obtain ⟨r6, h5, hf⟩ := bd_s hf
        refine z_cVi C kl_Model_209 rfl (c_Model_pair hm h5) (zm4 hm 80 rfl) rfl rfl rfl (Nat.le_of_ble_eq_true rfl) ⟨(Nat.le_of_ble_eq_true rfl), (Nat.le_of_ble_eq_true rfl)⟩ ⟨(Nat.le_of_ble_eq_true rfl), (Nat.le_of_ble_eq_true rfl)⟩ d_Model_knows_47 ?_
        refine z_if_ne (tgt := 57) C d_Model_knows_50 rfl (fun h7 => ?_) (fun h7 => ?_)
        · have hf := iff_f hf h7
          refine z_iconst C d_Model_knows_57 zki_0 ?_
          cases hf
          exact z_zret C rfl rfl (Nat.le_of_ble_eq_true rfl) (Nat.le_of_ble_eq_true rfl) d_Model_knows_58
        · have hf := iff_t hf h7
          refine z_iconst C d_Model_knows_53 zki_1 ?_
          refine z_goto (tgt := 58) C d_Model_knows_54 rfl ?_
          cases hf
          exact z_zret C rfl rfl (Nat.le_of_ble_eq_true rfl) (Nat.le_of_ble_eq_true rfl) d_Model_knows_58
  · have hf := iff_f hf h13
    refine z_aload_n C d_Model_knows_5 0 rfl rfl ?_
    refine z_iload_n C d_Model_knows_6 1 rfl rfl ?_
    refine z_iload_n C d_Model_knows_7 2 rfl rfl ?_
    refine z_iconst C d_Model_knows_8 zki_0 ?_
    refine z_iload_n C d_Model_knows_9 3 rfl rfl ?_
    refine z_iadd C d_Model_knows_10 ?_
    obtain ⟨r11, h10, hf⟩ := bd_s hf
    refine z_cVi C kl_Model_209 rfl (c_Model_pair hm h10) (zm4 hm 80 rfl) rfl rfl rfl (Nat.le_of_ble_eq_true rfl) ⟨(Nat.le_of_ble_eq_true rfl), (Nat.le_of_ble_eq_true rfl)⟩ ⟨(Nat.le_of_ble_eq_true rfl), (Nat.le_of_ble_eq_true rfl)⟩ d_Model_knows_11 ?_
    refine z_iconst C d_Model_knows_14 zki_1 ?_
    refine z_icmp_ne (tgt := 22) C d_Model_knows_15 rfl (fun h12 => ?_) (fun h12 => ?_)
    · have hf := iff_f hf h12
      refine z_iconst C d_Model_knows_22 zki_0 ?_
      cases hf
      exact z_zret C rfl rfl (Nat.le_of_ble_eq_true rfl) (Nat.le_of_ble_eq_true rfl) d_Model_knows_23
    · have hf := iff_t hf h12
      refine z_iconst C d_Model_knows_18 zki_1 ?_
      refine z_goto (tgt := 23) C d_Model_knows_19 rfl ?_
      cases hf
      exact z_zret C rfl rfl (Nat.le_of_ble_eq_true rfl) (Nat.le_of_ble_eq_true rfl) d_Model_knows_23
abbrev rm_Model_newsOf : Room := { frames := 3, cells := 0, slots := 0, locals := 67 }
theorem d_Model_newsOf_0 : decode b_Model_newsOf 0 = .ok (.iconst 0, 1) := by decide +kernel
theorem d_Model_newsOf_1 : decode b_Model_newsOf 1 = .ok (.istore_n 3, 1) := by decide +kernel
theorem d_Model_newsOf_2 : decode b_Model_newsOf 2 = .ok (.iconst 0, 1) := by decide +kernel
theorem d_Model_newsOf_3 : decode b_Model_newsOf 3 = .ok (.istore 4, 2) := by decide +kernel
theorem d_Model_newsOf_5 : decode b_Model_newsOf 5 = .ok (.iload 4, 2) := by decide +kernel
theorem d_Model_newsOf_7 : decode b_Model_newsOf 7 = .ok (.aload_n 0, 1) := by decide +kernel
theorem d_Model_newsOf_8 : decode b_Model_newsOf 8 = .ok (.getfield 7, 3) := by decide +kernel
theorem d_Model_newsOf_11 : decode b_Model_newsOf 11 = .ok (.bipush 7, 2) := by decide +kernel
theorem d_Model_newsOf_13 : decode b_Model_newsOf 13 = .ok (.iaload, 1) := by decide +kernel
theorem d_Model_newsOf_14 : decode b_Model_newsOf 14 = .ok (.if_icmp .ge 31, 3) := by decide +kernel
theorem d_Model_newsOf_17 : decode b_Model_newsOf 17 = .ok (.iload_n 3, 1) := by decide +kernel
theorem d_Model_newsOf_18 : decode b_Model_newsOf 18 = .ok (.aload_n 0, 1) := by decide +kernel
theorem d_Model_newsOf_19 : decode b_Model_newsOf 19 = .ok (.iload_n 1, 1) := by decide +kernel
theorem d_Model_newsOf_20 : decode b_Model_newsOf 20 = .ok (.iload 4, 2) := by decide +kernel
theorem d_Model_newsOf_22 : decode b_Model_newsOf 22 = .ok (.iload_n 2, 1) := by decide +kernel
theorem d_Model_newsOf_23 : decode b_Model_newsOf 23 = .ok (.invokevirtual 237, 3) := by decide +kernel
theorem d_Model_newsOf_26 : decode b_Model_newsOf 26 = .ok (.ifCond .eq 10, 3) := by decide +kernel
theorem d_Model_newsOf_29 : decode b_Model_newsOf 29 = .ok (.iconst 1, 1) := by decide +kernel
theorem d_Model_newsOf_30 : decode b_Model_newsOf 30 = .ok (.iload 4, 2) := by decide +kernel
theorem d_Model_newsOf_32 : decode b_Model_newsOf 32 = .ok (.ishl, 1) := by decide +kernel
theorem d_Model_newsOf_33 : decode b_Model_newsOf 33 = .ok (.goto 4, 3) := by decide +kernel
theorem d_Model_newsOf_36 : decode b_Model_newsOf 36 = .ok (.iconst 0, 1) := by decide +kernel
theorem d_Model_newsOf_37 : decode b_Model_newsOf 37 = .ok (.iadd, 1) := by decide +kernel
theorem d_Model_newsOf_38 : decode b_Model_newsOf 38 = .ok (.istore_n 3, 1) := by decide +kernel
theorem d_Model_newsOf_39 : decode b_Model_newsOf 39 = .ok (.iinc 4 1, 3) := by decide +kernel
theorem d_Model_newsOf_42 : decode b_Model_newsOf 42 = .ok (.goto (-37), 3) := by decide +kernel
theorem d_Model_newsOf_45 : decode b_Model_newsOf 45 = .ok (.iload_n 3, 1) := by decide +kernel
theorem d_Model_newsOf_46 : decode b_Model_newsOf 46 = .ok (.ireturn, 1) := by decide +kernel
def L_Model_newsOf (σ : zSt) : Nat → Nat → Int32 → Int32 → Int32 → Int32 → Option (Int32)
  | 0, _, _, _, _, _ => none
  | n + 1, 0, x1, x2, x3, x4 => if (σ.1 4 81 7) ≤ x4 then some x3 else ((F_Model_knows x1 x4 x2 σ).bind fun r2 => if r2 = 0 then L_Model_newsOf σ n 0 x1 x2 (x3 + (0 : Int32)) (x4 + (1 : Int32)) else L_Model_newsOf σ n 0 x1 x2 (x3 + ((1 : Int32) <<< (x4 &&& 31))) (x4 + (1 : Int32)))
  | _ + 1, _, _, _, _, _ => none
theorem e_Model_newsOf_0 (σ : zSt) (n : Nat) (x1 : Int32) (x2 : Int32) (x3 : Int32) (x4 : Int32) : L_Model_newsOf σ (n + 1) 0 x1 x2 x3 x4 = (if (σ.1 4 81 7) ≤ x4 then some x3 else ((F_Model_knows x1 x4 x2 σ).bind fun r2 => if r2 = 0 then L_Model_newsOf σ n 0 x1 x2 (x3 + (0 : Int32)) (x4 + (1 : Int32)) else L_Model_newsOf σ n 0 x1 x2 (x3 + ((1 : Int32) <<< (x4 &&& 31))) (x4 + (1 : Int32)))) := rfl
set_option maxHeartbeats 4000000 in
set_option maxRecDepth 100000 in
theorem w_Model_newsOf {l : Launch} {G : zLA} {p : Program} {e : Env} {s : State} {m : MethodId} {args : Array Value} {below : List Frame} {meth : Method} {c : Code} (C : zCx G p s m args meth c "VillageWavesModel" b_Model_newsOf 5 (some .int)) (hm : zml G) {σ : zSt} {r : Int32} : ∀ n : Nat, (∀ (x1 : Int32) (x2 : Int32) (x3 : Int32) (x4 : Int32), L_Model_newsOf σ n 0 x1 x2 x3 x4 = some r → zWV G p l e rm_Model_newsOf s m args below meth c 5 0 0 (zQ G below args s rm_Model_newsOf (some (.int r)) σ) 5 [(0, .ref (zad G 4 80)), (1, .int x1), (2, .int x2), (3, .int x3), (4, .int x4)] [] σ) := by
  intro n
  induction n with
  | zero => exact fun _ _ _ _ hf => (by cases hf)
  | succ n ih =>
    refine ?_
    · intro x1 x2 x3 x4 hf
      rw [e_Model_newsOf_0] at hf
      refine z_iload C d_Model_newsOf_5 4 rfl ?_
      refine z_aload_n C d_Model_newsOf_7 0 rfl rfl ?_
      refine gf_Model_7 C (zm4 hm 80 rfl) rfl rfl d_Model_newsOf_8 ?_
      refine z_bipush C d_Model_newsOf_11 zkb_7 ?_
      refine z_iald C (zm4 hm 81 rfl) rfl (inb_in (by decide)) zc_7 d_Model_newsOf_13 ?_
      refine z_icmp_ge (tgt := 45) C d_Model_newsOf_14 rfl (fun h4 => ?_) (fun h4 => ?_)
      · have hf := iff_t hf h4
        refine z_iload_n C d_Model_newsOf_45 3 rfl rfl ?_
        cases hf
        exact z_iret C rfl (Nat.le_of_ble_eq_true rfl) (Nat.le_of_ble_eq_true rfl) d_Model_newsOf_46
      · have hf := iff_f hf h4
        refine z_iload_n C d_Model_newsOf_17 3 rfl rfl ?_
        refine z_aload_n C d_Model_newsOf_18 0 rfl rfl ?_
        refine z_iload_n C d_Model_newsOf_19 1 rfl rfl ?_
        refine z_iload C d_Model_newsOf_20 4 rfl ?_
        refine z_iload_n C d_Model_newsOf_22 2 rfl rfl ?_
        obtain ⟨r2, h1, hf⟩ := bd_s hf
        refine z_cVi C kl_Model_237 rfl (c_Model_knows hm h1) (zm4 hm 80 rfl) rfl rfl rfl (Nat.le_of_ble_eq_true rfl) ⟨(Nat.le_of_ble_eq_true rfl), (Nat.le_of_ble_eq_true rfl)⟩ ⟨(Nat.le_of_ble_eq_true rfl), (Nat.le_of_ble_eq_true rfl)⟩ d_Model_newsOf_23 ?_
        refine z_if_eq (tgt := 36) C d_Model_newsOf_26 rfl (fun h3 => ?_) (fun h3 => ?_)
        · have hf := iff_t hf h3
          refine z_iconst C d_Model_newsOf_36 zki_0 ?_
          refine z_iadd C d_Model_newsOf_37 ?_
          refine z_istore_n C d_Model_newsOf_38 rfl (by decide) ?_
          refine z_iinc C d_Model_newsOf_39 4 rfl zki_1 (by decide) ?_
          refine z_goto (tgt := 5) C d_Model_newsOf_42 rfl ?_
          exact z_sub [2, 3, 4, 1, 0] rfl (ih _ _ _ _ hf)
        · have hf := iff_f hf h3
          refine z_iconst C d_Model_newsOf_29 zki_1 ?_
          refine z_iload C d_Model_newsOf_30 4 rfl ?_
          refine z_ishl C d_Model_newsOf_32 ?_
          refine z_goto (tgt := 37) C d_Model_newsOf_33 rfl ?_
          refine z_iadd C d_Model_newsOf_37 ?_
          refine z_istore_n C d_Model_newsOf_38 rfl (by decide) ?_
          refine z_iinc C d_Model_newsOf_39 4 rfl zki_1 (by decide) ?_
          refine z_goto (tgt := 5) C d_Model_newsOf_42 rfl ?_
          exact z_sub [2, 3, 4, 1, 0] rfl (ih _ _ _ _ hf)
def F_Model_newsOf (a0 : Int32) (a1 : Int32) (σ : zSt) : Option (Int32) :=
  L_Model_newsOf σ zK 0 a0 a1 (0 : Int32) (0 : Int32)
set_option maxHeartbeats 4000000 in
set_option maxRecDepth 100000 in
theorem c_Model_newsOf {l : Launch} {G : zLA} (hm : zml G) {a0 : Int32} {a1 : Int32} {σ : zSt} {r : Int32} (hf : F_Model_newsOf a0 a1 σ = some r) : zM l G y_Model_newsOf (zws y_Model_newsOf b_Model_newsOf 5 (some .int)) rm_Model_newsOf [.ref (zad G 4 80), .int a0, .int a1] σ (some (.int r)) σ := by
  refine z_ofM (own := "VillageWavesModel") (lv := [(0, .ref (zad G 4 80)), (1, .int a0), (2, .int a1)]) (by decide +kernel) rfl rfl (Nat.le_of_ble_eq_true rfl) (fun p e s m args below meth c C => ?_)
  rw [F_Model_newsOf] at hf
  refine z_iconst C d_Model_newsOf_0 zki_0 ?_
  refine z_istore_n C d_Model_newsOf_1 rfl (by decide) ?_
  refine z_iconst C d_Model_newsOf_2 zki_0 ?_
  refine z_istore C d_Model_newsOf_3 (by decide) ?_
  exact z_sub [2, 3, 4, 1, 0] rfl ((w_Model_newsOf C hm zK) _ _ _ _ hf)
abbrev rm_Model_housesOf : Room := { frames := 3, cells := 0, slots := 0, locals := 67 }
theorem d_Model_housesOf_0 : decode b_Model_housesOf 0 = .ok (.iconst 0, 1) := by decide +kernel
theorem d_Model_housesOf_1 : decode b_Model_housesOf 1 = .ok (.istore_n 3, 1) := by decide +kernel
theorem d_Model_housesOf_2 : decode b_Model_housesOf 2 = .ok (.iconst 0, 1) := by decide +kernel
theorem d_Model_housesOf_3 : decode b_Model_housesOf 3 = .ok (.istore 4, 2) := by decide +kernel
theorem d_Model_housesOf_5 : decode b_Model_housesOf 5 = .ok (.iload 4, 2) := by decide +kernel
theorem d_Model_housesOf_7 : decode b_Model_housesOf 7 = .ok (.aload_n 0, 1) := by decide +kernel
theorem d_Model_housesOf_8 : decode b_Model_housesOf 8 = .ok (.getfield 7, 3) := by decide +kernel
theorem d_Model_housesOf_11 : decode b_Model_housesOf 11 = .ok (.bipush 6, 2) := by decide +kernel
theorem d_Model_housesOf_13 : decode b_Model_housesOf 13 = .ok (.iaload, 1) := by decide +kernel
theorem d_Model_housesOf_14 : decode b_Model_housesOf 14 = .ok (.if_icmp .ge 31, 3) := by decide +kernel
theorem d_Model_housesOf_17 : decode b_Model_housesOf 17 = .ok (.iload_n 3, 1) := by decide +kernel
theorem d_Model_housesOf_18 : decode b_Model_housesOf 18 = .ok (.aload_n 0, 1) := by decide +kernel
theorem d_Model_housesOf_19 : decode b_Model_housesOf 19 = .ok (.iload 4, 2) := by decide +kernel
theorem d_Model_housesOf_21 : decode b_Model_housesOf 21 = .ok (.iload_n 1, 1) := by decide +kernel
theorem d_Model_housesOf_22 : decode b_Model_housesOf 22 = .ok (.iload_n 2, 1) := by decide +kernel
theorem d_Model_housesOf_23 : decode b_Model_housesOf 23 = .ok (.invokevirtual 237, 3) := by decide +kernel
theorem d_Model_housesOf_26 : decode b_Model_housesOf 26 = .ok (.ifCond .eq 10, 3) := by decide +kernel
theorem d_Model_housesOf_29 : decode b_Model_housesOf 29 = .ok (.iconst 1, 1) := by decide +kernel
theorem d_Model_housesOf_30 : decode b_Model_housesOf 30 = .ok (.iload 4, 2) := by decide +kernel
theorem d_Model_housesOf_32 : decode b_Model_housesOf 32 = .ok (.ishl, 1) := by decide +kernel
theorem d_Model_housesOf_33 : decode b_Model_housesOf 33 = .ok (.goto 4, 3) := by decide +kernel
theorem d_Model_housesOf_36 : decode b_Model_housesOf 36 = .ok (.iconst 0, 1) := by decide +kernel
theorem d_Model_housesOf_37 : decode b_Model_housesOf 37 = .ok (.iadd, 1) := by decide +kernel
theorem d_Model_housesOf_38 : decode b_Model_housesOf 38 = .ok (.istore_n 3, 1) := by decide +kernel
theorem d_Model_housesOf_39 : decode b_Model_housesOf 39 = .ok (.iinc 4 1, 3) := by decide +kernel
theorem d_Model_housesOf_42 : decode b_Model_housesOf 42 = .ok (.goto (-37), 3) := by decide +kernel
theorem d_Model_housesOf_45 : decode b_Model_housesOf 45 = .ok (.iload_n 3, 1) := by decide +kernel
theorem d_Model_housesOf_46 : decode b_Model_housesOf 46 = .ok (.ireturn, 1) := by decide +kernel
def L_Model_housesOf (σ : zSt) : Nat → Nat → Int32 → Int32 → Int32 → Int32 → Option (Int32)
  | 0, _, _, _, _, _ => none
  | n + 1, 0, x1, x2, x3, x4 => if (σ.1 4 81 6) ≤ x4 then some x3 else ((F_Model_knows x4 x1 x2 σ).bind fun r2 => if r2 = 0 then L_Model_housesOf σ n 0 x1 x2 (x3 + (0 : Int32)) (x4 + (1 : Int32)) else L_Model_housesOf σ n 0 x1 x2 (x3 + ((1 : Int32) <<< (x4 &&& 31))) (x4 + (1 : Int32)))
  | _ + 1, _, _, _, _, _ => none
theorem e_Model_housesOf_0 (σ : zSt) (n : Nat) (x1 : Int32) (x2 : Int32) (x3 : Int32) (x4 : Int32) : L_Model_housesOf σ (n + 1) 0 x1 x2 x3 x4 = (if (σ.1 4 81 6) ≤ x4 then some x3 else ((F_Model_knows x4 x1 x2 σ).bind fun r2 => if r2 = 0 then L_Model_housesOf σ n 0 x1 x2 (x3 + (0 : Int32)) (x4 + (1 : Int32)) else L_Model_housesOf σ n 0 x1 x2 (x3 + ((1 : Int32) <<< (x4 &&& 31))) (x4 + (1 : Int32)))) := rfl
set_option maxHeartbeats 4000000 in
set_option maxRecDepth 100000 in
theorem w_Model_housesOf {l : Launch} {G : zLA} {p : Program} {e : Env} {s : State} {m : MethodId} {args : Array Value} {below : List Frame} {meth : Method} {c : Code} (C : zCx G p s m args meth c "VillageWavesModel" b_Model_housesOf 5 (some .int)) (hm : zml G) {σ : zSt} {r : Int32} : ∀ n : Nat, (∀ (x1 : Int32) (x2 : Int32) (x3 : Int32) (x4 : Int32), L_Model_housesOf σ n 0 x1 x2 x3 x4 = some r → zWV G p l e rm_Model_housesOf s m args below meth c 5 0 0 (zQ G below args s rm_Model_housesOf (some (.int r)) σ) 5 [(0, .ref (zad G 4 80)), (1, .int x1), (2, .int x2), (3, .int x3), (4, .int x4)] [] σ) := by
  intro n
  induction n with
  | zero => exact fun _ _ _ _ hf => (by cases hf)
  | succ n ih =>
    refine ?_
    · intro x1 x2 x3 x4 hf
      rw [e_Model_housesOf_0] at hf
      refine z_iload C d_Model_housesOf_5 4 rfl ?_
      refine z_aload_n C d_Model_housesOf_7 0 rfl rfl ?_
      refine gf_Model_7 C (zm4 hm 80 rfl) rfl rfl d_Model_housesOf_8 ?_
      refine z_bipush C d_Model_housesOf_11 zkb_6 ?_
      refine z_iald C (zm4 hm 81 rfl) rfl (inb_in (by decide)) zc_6 d_Model_housesOf_13 ?_
      refine z_icmp_ge (tgt := 45) C d_Model_housesOf_14 rfl (fun h4 => ?_) (fun h4 => ?_)
      · have hf := iff_t hf h4
        refine z_iload_n C d_Model_housesOf_45 3 rfl rfl ?_
        cases hf
        exact z_iret C rfl (Nat.le_of_ble_eq_true rfl) (Nat.le_of_ble_eq_true rfl) d_Model_housesOf_46
      · have hf := iff_f hf h4
        refine z_iload_n C d_Model_housesOf_17 3 rfl rfl ?_
        refine z_aload_n C d_Model_housesOf_18 0 rfl rfl ?_
        refine z_iload C d_Model_housesOf_19 4 rfl ?_
        refine z_iload_n C d_Model_housesOf_21 1 rfl rfl ?_
        refine z_iload_n C d_Model_housesOf_22 2 rfl rfl ?_
        obtain ⟨r2, h1, hf⟩ := bd_s hf
        refine z_cVi C kl_Model_237 rfl (c_Model_knows hm h1) (zm4 hm 80 rfl) rfl rfl rfl (Nat.le_of_ble_eq_true rfl) ⟨(Nat.le_of_ble_eq_true rfl), (Nat.le_of_ble_eq_true rfl)⟩ ⟨(Nat.le_of_ble_eq_true rfl), (Nat.le_of_ble_eq_true rfl)⟩ d_Model_housesOf_23 ?_
        refine z_if_eq (tgt := 36) C d_Model_housesOf_26 rfl (fun h3 => ?_) (fun h3 => ?_)
        · have hf := iff_t hf h3
          refine z_iconst C d_Model_housesOf_36 zki_0 ?_
          refine z_iadd C d_Model_housesOf_37 ?_
          refine z_istore_n C d_Model_housesOf_38 rfl (by decide) ?_
          refine z_iinc C d_Model_housesOf_39 4 rfl zki_1 (by decide) ?_
          refine z_goto (tgt := 5) C d_Model_housesOf_42 rfl ?_
          exact z_sub [2, 3, 4, 1, 0] rfl (ih _ _ _ _ hf)
        · have hf := iff_f hf h3
          refine z_iconst C d_Model_housesOf_29 zki_1 ?_
          refine z_iload C d_Model_housesOf_30 4 rfl ?_
          refine z_ishl C d_Model_housesOf_32 ?_
          refine z_goto (tgt := 37) C d_Model_housesOf_33 rfl ?_
          refine z_iadd C d_Model_housesOf_37 ?_
          refine z_istore_n C d_Model_housesOf_38 rfl (by decide) ?_
          refine z_iinc C d_Model_housesOf_39 4 rfl zki_1 (by decide) ?_
          refine z_goto (tgt := 5) C d_Model_housesOf_42 rfl ?_
          exact z_sub [2, 3, 4, 1, 0] rfl (ih _ _ _ _ hf)
def F_Model_housesOf (a0 : Int32) (a1 : Int32) (σ : zSt) : Option (Int32) :=
  L_Model_housesOf σ zK 0 a0 a1 (0 : Int32) (0 : Int32)
set_option maxHeartbeats 4000000 in
set_option maxRecDepth 100000 in
theorem c_Model_housesOf {l : Launch} {G : zLA} (hm : zml G) {a0 : Int32} {a1 : Int32} {σ : zSt} {r : Int32} (hf : F_Model_housesOf a0 a1 σ = some r) : zM l G y_Model_housesOf (zws y_Model_housesOf b_Model_housesOf 5 (some .int)) rm_Model_housesOf [.ref (zad G 4 80), .int a0, .int a1] σ (some (.int r)) σ := by
  refine z_ofM (own := "VillageWavesModel") (lv := [(0, .ref (zad G 4 80)), (1, .int a0), (2, .int a1)]) (by decide +kernel) rfl rfl (Nat.le_of_ble_eq_true rfl) (fun p e s m args below meth c C => ?_)
  rw [F_Model_housesOf] at hf
  refine z_iconst C d_Model_housesOf_0 zki_0 ?_
  refine z_istore_n C d_Model_housesOf_1 rfl (by decide) ?_
  refine z_iconst C d_Model_housesOf_2 zki_0 ?_
  refine z_istore C d_Model_housesOf_3 (by decide) ?_
  exact z_sub [2, 3, 4, 1, 0] rfl ((w_Model_housesOf C hm zK) _ _ _ _ hf)
abbrev rm_Model_house : Room := { frames := 4, cells := 0, slots := 0, locals := 91 }
theorem d_Model_house_0 : decode b_Model_house 0 = .ok (.aload_n 0, 1) := by decide +kernel
theorem d_Model_house_1 : decode b_Model_house 1 = .ok (.iconst 0, 1) := by decide +kernel
theorem d_Model_house_2 : decode b_Model_house 2 = .ok (.putfield 48, 3) := by decide +kernel
theorem d_Model_house_5 : decode b_Model_house 5 = .ok (.aload_n 0, 1) := by decide +kernel
theorem d_Model_house_6 : decode b_Model_house 6 = .ok (.iload_n 1, 1) := by decide +kernel
theorem d_Model_house_7 : decode b_Model_house 7 = .ok (.invokevirtual 188, 3) := by decide +kernel
theorem d_Model_house_10 : decode b_Model_house 10 = .ok (.ifCond .ne 9, 3) := by decide +kernel
theorem d_Model_house_13 : decode b_Model_house 13 = .ok (.aload_n 0, 1) := by decide +kernel
theorem d_Model_house_14 : decode b_Model_house 14 = .ok (.iconst 1, 1) := by decide +kernel
theorem d_Model_house_15 : decode b_Model_house 15 = .ok (.invokevirtual 62, 3) := by decide +kernel
theorem d_Model_house_18 : decode b_Model_house 18 = .ok (.ireturn, 1) := by decide +kernel
theorem d_Model_house_19 : decode b_Model_house 19 = .ok (.iload_n 2, 1) := by decide +kernel
theorem d_Model_house_20 : decode b_Model_house 20 = .ok (.tableswitch 93 7 14 #[48, 62, 62, 71, 71, 71, 81, 87], 48) := by decide +kernel
theorem d_Model_house_68 : decode b_Model_house 68 = .ok (.aload_n 0, 1) := by decide +kernel
theorem d_Model_house_69 : decode b_Model_house 69 = .ok (.iload_n 1, 1) := by decide +kernel
theorem d_Model_house_70 : decode b_Model_house 70 = .ok (.invokevirtual 206, 3) := by decide +kernel
theorem d_Model_house_73 : decode b_Model_house 73 = .ok (.ifCond .eq 7, 3) := by decide +kernel
theorem d_Model_house_76 : decode b_Model_house 76 = .ok (.iconst 1, 1) := by decide +kernel
theorem d_Model_house_77 : decode b_Model_house 77 = .ok (.goto 4, 3) := by decide +kernel
theorem d_Model_house_80 : decode b_Model_house 80 = .ok (.iconst 0, 1) := by decide +kernel
theorem d_Model_house_81 : decode b_Model_house 81 = .ok (.ireturn, 1) := by decide +kernel
theorem d_Model_house_82 : decode b_Model_house 82 = .ok (.aload_n 0, 1) := by decide +kernel
theorem d_Model_house_83 : decode b_Model_house 83 = .ok (.iload_n 1, 1) := by decide +kernel
theorem d_Model_house_84 : decode b_Model_house 84 = .ok (.iload_n 2, 1) := by decide +kernel
theorem d_Model_house_85 : decode b_Model_house 85 = .ok (.iconst 1, 1) := by decide +kernel
theorem d_Model_house_86 : decode b_Model_house 86 = .ok (.isub, 1) := by decide +kernel
theorem d_Model_house_87 : decode b_Model_house 87 = .ok (.invokevirtual 191, 3) := by decide +kernel
theorem d_Model_house_90 : decode b_Model_house 90 = .ok (.ireturn, 1) := by decide +kernel
theorem d_Model_house_91 : decode b_Model_house 91 = .ok (.aload_n 0, 1) := by decide +kernel
theorem d_Model_house_92 : decode b_Model_house 92 = .ok (.iload_n 1, 1) := by decide +kernel
theorem d_Model_house_93 : decode b_Model_house 93 = .ok (.iload_n 2, 1) := by decide +kernel
theorem d_Model_house_94 : decode b_Model_house 94 = .ok (.bipush 10, 2) := by decide +kernel
theorem d_Model_house_96 : decode b_Model_house 96 = .ok (.isub, 1) := by decide +kernel
theorem d_Model_house_97 : decode b_Model_house 97 = .ok (.invokevirtual 240, 3) := by decide +kernel
theorem d_Model_house_100 : decode b_Model_house 100 = .ok (.ireturn, 1) := by decide +kernel
theorem d_Model_house_101 : decode b_Model_house 101 = .ok (.aload_n 0, 1) := by decide +kernel
theorem d_Model_house_102 : decode b_Model_house 102 = .ok (.iload_n 1, 1) := by decide +kernel
theorem d_Model_house_103 : decode b_Model_house 103 = .ok (.invokevirtual 213, 3) := by decide +kernel
theorem d_Model_house_106 : decode b_Model_house 106 = .ok (.ireturn, 1) := by decide +kernel
theorem d_Model_house_107 : decode b_Model_house 107 = .ok (.aload_n 0, 1) := by decide +kernel
theorem d_Model_house_108 : decode b_Model_house 108 = .ok (.iload_n 1, 1) := by decide +kernel
theorem d_Model_house_109 : decode b_Model_house 109 = .ok (.invokevirtual 243, 3) := by decide +kernel
theorem d_Model_house_112 : decode b_Model_house 112 = .ok (.ireturn, 1) := by decide +kernel
theorem d_Model_house_113 : decode b_Model_house 113 = .ok (.iload_n 2, 1) := by decide +kernel
theorem d_Model_house_114 : decode b_Model_house 114 = .ok (.iconst 0, 1) := by decide +kernel
theorem d_Model_house_115 : decode b_Model_house 115 = .ok (.bipush 6, 2) := by decide +kernel
theorem d_Model_house_117 : decode b_Model_house 117 = .ok (.invokestatic 51, 3) := by decide +kernel
theorem d_Model_house_120 : decode b_Model_house 120 = .ok (.ifCond .eq 12, 3) := by decide +kernel
theorem d_Model_house_123 : decode b_Model_house 123 = .ok (.aload_n 0, 1) := by decide +kernel
theorem d_Model_house_124 : decode b_Model_house 124 = .ok (.iload_n 1, 1) := by decide +kernel
theorem d_Model_house_125 : decode b_Model_house 125 = .ok (.iload_n 2, 1) := by decide +kernel
theorem d_Model_house_126 : decode b_Model_house 126 = .ok (.invokevirtual 191, 3) := by decide +kernel
theorem d_Model_house_129 : decode b_Model_house 129 = .ok (.goto 8, 3) := by decide +kernel
theorem d_Model_house_132 : decode b_Model_house 132 = .ok (.aload_n 0, 1) := by decide +kernel
theorem d_Model_house_133 : decode b_Model_house 133 = .ok (.iconst 2, 1) := by decide +kernel
theorem d_Model_house_134 : decode b_Model_house 134 = .ok (.invokevirtual 62, 3) := by decide +kernel
theorem d_Model_house_137 : decode b_Model_house 137 = .ok (.ireturn, 1) := by decide +kernel
def F_Model_house (a0 : Int32) (a1 : Int32) (σ : zSt) : Option (Int32 × zSt) :=
  (F_Model_isHouse a0 (zst σ 4 80 8 (0 : Int32))).bind fun r2 => if r2 = 0 then (bd2 (F_Model_fail (1 : Int32) (zst σ 4 80 8 (0 : Int32))) fun r37 σ38 => some (r37, σ38)) else (if a1 = (7 : Int32) then ((F_Model_isQuiet a0 (zst σ 4 80 8 (0 : Int32))).bind fun r5 => if r5 = 0 then some ((0 : Int32), (zst σ 4 80 8 (0 : Int32))) else some ((1 : Int32), (zst σ 4 80 8 (0 : Int32)))) else (if a1 = (8 : Int32) then ((F_Model_of a0 (a1 - (1 : Int32)) (zst σ 4 80 8 (0 : Int32))).bind fun r9 => some (r9, (zst σ 4 80 8 (0 : Int32)))) else (if a1 = (9 : Int32) then ((F_Model_of a0 (a1 - (1 : Int32)) (zst σ 4 80 8 (0 : Int32))).bind fun r12 => some (r12, (zst σ 4 80 8 (0 : Int32)))) else (if a1 = (10 : Int32) then ((F_Model_newsOf a0 (a1 - (10 : Int32)) (zst σ 4 80 8 (0 : Int32))).bind fun r15 => some (r15, (zst σ 4 80 8 (0 : Int32)))) else (if a1 = (11 : Int32) then ((F_Model_newsOf a0 (a1 - (10 : Int32)) (zst σ 4 80 8 (0 : Int32))).bind fun r18 => some (r18, (zst σ 4 80 8 (0 : Int32)))) else (if a1 = (12 : Int32) then ((F_Model_newsOf a0 (a1 - (10 : Int32)) (zst σ 4 80 8 (0 : Int32))).bind fun r21 => some (r21, (zst σ 4 80 8 (0 : Int32)))) else (if a1 = (13 : Int32) then ((F_Model_entriesOf a0 (zst σ 4 80 8 (0 : Int32))).bind fun r24 => some (r24, (zst σ 4 80 8 (0 : Int32)))) else (if a1 = (14 : Int32) then ((F_Model_housesInRange a0 (zst σ 4 80 8 (0 : Int32))).bind fun r27 => some (r27, (zst σ 4 80 8 (0 : Int32)))) else ((F_Model_isBetween a1 (0 : Int32) (6 : Int32) (zst σ 4 80 8 (0 : Int32))).bind fun r29 => if r29 = 0 then (bd2 (F_Model_fail (2 : Int32) (zst σ 4 80 8 (0 : Int32))) fun r31 σ32 => some (r31, σ32)) else ((F_Model_of a0 a1 (zst σ 4 80 8 (0 : Int32))).bind fun r34 => some (r34, (zst σ 4 80 8 (0 : Int32)))))))))))))
set_option maxHeartbeats 4000000 in
set_option maxRecDepth 100000 in
theorem c_Model_house {l : Launch} {G : zLA} (hm : zml G) {a0 : Int32} {a1 : Int32} {σ : zSt} {r : Int32} {σ' : zSt} (hf : F_Model_house a0 a1 σ = some (r, σ')) : zM l G y_Model_house (zws y_Model_house b_Model_house 3 (some .int)) rm_Model_house [.ref (zad G 4 80), .int a0, .int a1] σ (some (.int r)) σ' := by
  refine z_ofM (own := "VillageWavesModel") (lv := [(0, .ref (zad G 4 80)), (1, .int a0), (2, .int a1)]) (by decide +kernel) rfl rfl (Nat.le_of_ble_eq_true rfl) (fun p e s m args below meth c C => ?_)
  rw [F_Model_house] at hf
  refine z_aload_n C d_Model_house_0 0 rfl rfl ?_
  refine z_iconst C d_Model_house_1 zki_0 ?_
  refine pf_Model_48 C (zm4 hm 80 rfl) rfl (Nat.le_of_ble_eq_true rfl) rfl d_Model_house_2 ?_
  refine z_aload_n C d_Model_house_5 0 rfl rfl ?_
  refine z_iload_n C d_Model_house_6 1 rfl rfl ?_
  obtain ⟨r2, h1, hf⟩ := bd_s hf
  refine z_cVi C kl_Model_188 rfl (c_Model_isHouse hm h1) (zm4 hm 80 rfl) rfl rfl rfl (Nat.le_of_ble_eq_true rfl) ⟨(Nat.le_of_ble_eq_true rfl), (Nat.le_of_ble_eq_true rfl)⟩ ⟨(Nat.le_of_ble_eq_true rfl), (Nat.le_of_ble_eq_true rfl)⟩ d_Model_house_7 ?_
  refine z_if_ne (tgt := 19) C d_Model_house_10 rfl (fun h39 => ?_) (fun h39 => ?_)
  · have hf := iff_f hf h39
    refine z_iload_n C d_Model_house_19 2 rfl rfl ?_
    by_cases h3 : a1 = (7 : Int32)
    · have hf := iff_t hf h3
      refine z_tin (off := 48) (tgt := 68) C d_Model_house_20 (by rw [h3]; decide) (by rw [h3]; decide) (by rw [h3]; rfl) rfl ?_
      refine z_aload_n C d_Model_house_68 0 rfl rfl ?_
      refine z_iload_n C d_Model_house_69 1 rfl rfl ?_
      obtain ⟨r5, h4, hf⟩ := bd_s hf
      refine z_cVi C kl_Model_206 rfl (c_Model_isQuiet hm h4) (zm4 hm 80 rfl) rfl rfl rfl (Nat.le_of_ble_eq_true rfl) ⟨(Nat.le_of_ble_eq_true rfl), (Nat.le_of_ble_eq_true rfl)⟩ ⟨(Nat.le_of_ble_eq_true rfl), (Nat.le_of_ble_eq_true rfl)⟩ d_Model_house_70 ?_
      refine z_if_eq (tgt := 80) C d_Model_house_73 rfl (fun h6 => ?_) (fun h6 => ?_)
      · have hf := iff_t hf h6
        refine z_iconst C d_Model_house_80 zki_0 ?_
        cases hf
        exact z_iret C rfl (Nat.le_of_ble_eq_true rfl) (Nat.le_of_ble_eq_true rfl) d_Model_house_81
      · have hf := iff_f hf h6
        refine z_iconst C d_Model_house_76 zki_1 ?_
        refine z_goto (tgt := 81) C d_Model_house_77 rfl ?_
        cases hf
        exact z_iret C rfl (Nat.le_of_ble_eq_true rfl) (Nat.le_of_ble_eq_true rfl) d_Model_house_81
    · have hf := iff_f hf h3
      by_cases h7 : a1 = (8 : Int32)
      · have hf := iff_t hf h7
        refine z_tin (off := 62) (tgt := 82) C d_Model_house_20 (by rw [h7]; decide) (by rw [h7]; decide) (by rw [h7]; rfl) rfl ?_
        refine z_aload_n C d_Model_house_82 0 rfl rfl ?_
        refine z_iload_n C d_Model_house_83 1 rfl rfl ?_
        refine z_iload_n C d_Model_house_84 2 rfl rfl ?_
        refine z_iconst C d_Model_house_85 zki_1 ?_
        refine z_isub C d_Model_house_86 ?_
        obtain ⟨r9, h8, hf⟩ := bd_s hf
        refine z_cVi C kl_Model_191 rfl (c_Model_of hm h8) (zm4 hm 80 rfl) rfl rfl rfl (Nat.le_of_ble_eq_true rfl) ⟨(Nat.le_of_ble_eq_true rfl), (Nat.le_of_ble_eq_true rfl)⟩ ⟨(Nat.le_of_ble_eq_true rfl), (Nat.le_of_ble_eq_true rfl)⟩ d_Model_house_87 ?_
        cases hf
        exact z_iret C rfl (Nat.le_of_ble_eq_true rfl) (Nat.le_of_ble_eq_true rfl) d_Model_house_90
      · have hf := iff_f hf h7
        by_cases h10 : a1 = (9 : Int32)
        · have hf := iff_t hf h10
          refine z_tin (off := 62) (tgt := 82) C d_Model_house_20 (by rw [h10]; decide) (by rw [h10]; decide) (by rw [h10]; rfl) rfl ?_
          refine z_aload_n C d_Model_house_82 0 rfl rfl ?_
          refine z_iload_n C d_Model_house_83 1 rfl rfl ?_
          refine z_iload_n C d_Model_house_84 2 rfl rfl ?_
          refine z_iconst C d_Model_house_85 zki_1 ?_
          refine z_isub C d_Model_house_86 ?_
          obtain ⟨r12, h11, hf⟩ := bd_s hf
          refine z_cVi C kl_Model_191 rfl (c_Model_of hm h11) (zm4 hm 80 rfl) rfl rfl rfl (Nat.le_of_ble_eq_true rfl) ⟨(Nat.le_of_ble_eq_true rfl), (Nat.le_of_ble_eq_true rfl)⟩ ⟨(Nat.le_of_ble_eq_true rfl), (Nat.le_of_ble_eq_true rfl)⟩ d_Model_house_87 ?_
          cases hf
          exact z_iret C rfl (Nat.le_of_ble_eq_true rfl) (Nat.le_of_ble_eq_true rfl) d_Model_house_90
        · have hf := iff_f hf h10
          by_cases h13 : a1 = (10 : Int32)
          · have hf := iff_t hf h13
            refine z_tin (off := 71) (tgt := 91) C d_Model_house_20 (by rw [h13]; decide) (by rw [h13]; decide) (by rw [h13]; rfl) rfl ?_
            refine z_aload_n C d_Model_house_91 0 rfl rfl ?_
            refine z_iload_n C d_Model_house_92 1 rfl rfl ?_
            refine z_iload_n C d_Model_house_93 2 rfl rfl ?_
            refine z_bipush C d_Model_house_94 zkb_10 ?_
            refine z_isub C d_Model_house_96 ?_
            obtain ⟨r15, h14, hf⟩ := bd_s hf
            refine z_cVi C kl_Model_240 rfl (c_Model_newsOf hm h14) (zm4 hm 80 rfl) rfl rfl rfl (Nat.le_of_ble_eq_true rfl) ⟨(Nat.le_of_ble_eq_true rfl), (Nat.le_of_ble_eq_true rfl)⟩ ⟨(Nat.le_of_ble_eq_true rfl), (Nat.le_of_ble_eq_true rfl)⟩ d_Model_house_97 ?_
            cases hf
            exact z_iret C rfl (Nat.le_of_ble_eq_true rfl) (Nat.le_of_ble_eq_true rfl) d_Model_house_100
          · have hf := iff_f hf h13
            by_cases h16 : a1 = (11 : Int32)
            · have hf := iff_t hf h16
              refine z_tin (off := 71) (tgt := 91) C d_Model_house_20 (by rw [h16]; decide) (by rw [h16]; decide) (by rw [h16]; rfl) rfl ?_
              refine z_aload_n C d_Model_house_91 0 rfl rfl ?_
              refine z_iload_n C d_Model_house_92 1 rfl rfl ?_
              refine z_iload_n C d_Model_house_93 2 rfl rfl ?_
              refine z_bipush C d_Model_house_94 zkb_10 ?_
              refine z_isub C d_Model_house_96 ?_
              obtain ⟨r18, h17, hf⟩ := bd_s hf
              refine z_cVi C kl_Model_240 rfl (c_Model_newsOf hm h17) (zm4 hm 80 rfl) rfl rfl rfl (Nat.le_of_ble_eq_true rfl) ⟨(Nat.le_of_ble_eq_true rfl), (Nat.le_of_ble_eq_true rfl)⟩ ⟨(Nat.le_of_ble_eq_true rfl), (Nat.le_of_ble_eq_true rfl)⟩ d_Model_house_97 ?_
              cases hf
              exact z_iret C rfl (Nat.le_of_ble_eq_true rfl) (Nat.le_of_ble_eq_true rfl) d_Model_house_100
            · have hf := iff_f hf h16
              by_cases h19 : a1 = (12 : Int32)
              · have hf := iff_t hf h19
                refine z_tin (off := 71) (tgt := 91) C d_Model_house_20 (by rw [h19]; decide) (by rw [h19]; decide) (by rw [h19]; rfl) rfl ?_
                refine z_aload_n C d_Model_house_91 0 rfl rfl ?_
                refine z_iload_n C d_Model_house_92 1 rfl rfl ?_
                refine z_iload_n C d_Model_house_93 2 rfl rfl ?_
                refine z_bipush C d_Model_house_94 zkb_10 ?_
                refine z_isub C d_Model_house_96 ?_
                obtain ⟨r21, h20, hf⟩ := bd_s hf
                refine z_cVi C kl_Model_240 rfl (c_Model_newsOf hm h20) (zm4 hm 80 rfl) rfl rfl rfl (Nat.le_of_ble_eq_true rfl) ⟨(Nat.le_of_ble_eq_true rfl), (Nat.le_of_ble_eq_true rfl)⟩ ⟨(Nat.le_of_ble_eq_true rfl), (Nat.le_of_ble_eq_true rfl)⟩ d_Model_house_97 ?_
                cases hf
                exact z_iret C rfl (Nat.le_of_ble_eq_true rfl) (Nat.le_of_ble_eq_true rfl) d_Model_house_100
              · have hf := iff_f hf h19
                by_cases h22 : a1 = (13 : Int32)
                · have hf := iff_t hf h22
                  refine z_tin (off := 81) (tgt := 101) C d_Model_house_20 (by rw [h22]; decide) (by rw [h22]; decide) (by rw [h22]; rfl) rfl ?_
                  refine z_aload_n C d_Model_house_101 0 rfl rfl ?_
                  refine z_iload_n C d_Model_house_102 1 rfl rfl ?_
                  obtain ⟨r24, h23, hf⟩ := bd_s hf
                  refine z_cVi C kl_Model_213 rfl (c_Model_entriesOf hm h23) (zm4 hm 80 rfl) rfl rfl rfl (Nat.le_of_ble_eq_true rfl) ⟨(Nat.le_of_ble_eq_true rfl), (Nat.le_of_ble_eq_true rfl)⟩ ⟨(Nat.le_of_ble_eq_true rfl), (Nat.le_of_ble_eq_true rfl)⟩ d_Model_house_103 ?_
                  cases hf
                  exact z_iret C rfl (Nat.le_of_ble_eq_true rfl) (Nat.le_of_ble_eq_true rfl) d_Model_house_106
                · have hf := iff_f hf h22
                  by_cases h25 : a1 = (14 : Int32)
                  · have hf := iff_t hf h25
                    refine z_tin (off := 87) (tgt := 107) C d_Model_house_20 (by rw [h25]; decide) (by rw [h25]; decide) (by rw [h25]; rfl) rfl ?_
                    refine z_aload_n C d_Model_house_107 0 rfl rfl ?_
                    refine z_iload_n C d_Model_house_108 1 rfl rfl ?_
                    obtain ⟨r27, h26, hf⟩ := bd_s hf
                    refine z_cVi C kl_Model_243 rfl (c_Model_housesInRange hm h26) (zm4 hm 80 rfl) rfl rfl rfl (Nat.le_of_ble_eq_true rfl) ⟨(Nat.le_of_ble_eq_true rfl), (Nat.le_of_ble_eq_true rfl)⟩ ⟨(Nat.le_of_ble_eq_true rfl), (Nat.le_of_ble_eq_true rfl)⟩ d_Model_house_109 ?_
                    cases hf
                    exact z_iret C rfl (Nat.le_of_ble_eq_true rfl) (Nat.le_of_ble_eq_true rfl) d_Model_house_112
                  · have hf := iff_f hf h25
                    refine z_tout (tgt := 113) C d_Model_house_20 (ztab_7_14 h3 h7 h10 h13 h16 h19 h22 h25) rfl ?_
                    refine z_iload_n C d_Model_house_113 2 rfl rfl ?_
                    refine z_iconst C d_Model_house_114 zki_0 ?_
                    refine z_bipush C d_Model_house_115 zkb_6 ?_
                    obtain ⟨r29, h28, hf⟩ := bd_s hf
                    refine z_cSi C kl_Model_51 (c_Model_isBetween h28) rfl rfl (Nat.le_of_ble_eq_true rfl) ⟨(Nat.le_of_ble_eq_true rfl), (Nat.le_of_ble_eq_true rfl)⟩ ⟨(Nat.le_of_ble_eq_true rfl), (Nat.le_of_ble_eq_true rfl)⟩ d_Model_house_117 ?_
                    refine z_if_eq (tgt := 132) C d_Model_house_120 rfl (fun h35 => ?_) (fun h35 => ?_)
                    · have hf := iff_t hf h35
                      refine z_aload_n C d_Model_house_132 0 rfl rfl ?_
                      refine z_iconst C d_Model_house_133 zki_2 ?_
                      obtain ⟨r31, σ32, h30, hf⟩ := bd2_s hf
                      refine z_cVi C kl_Model_62 rfl (c_Model_fail hm h30) (zm4 hm 80 rfl) rfl rfl rfl (Nat.le_of_ble_eq_true rfl) ⟨(Nat.le_of_ble_eq_true rfl), (Nat.le_of_ble_eq_true rfl)⟩ ⟨(Nat.le_of_ble_eq_true rfl), (Nat.le_of_ble_eq_true rfl)⟩ d_Model_house_134 ?_
                      cases hf
                      exact z_iret C rfl (Nat.le_of_ble_eq_true rfl) (Nat.le_of_ble_eq_true rfl) d_Model_house_137
                    · have hf := iff_f hf h35
                      refine z_aload_n C d_Model_house_123 0 rfl rfl ?_
                      refine z_iload_n C d_Model_house_124 1 rfl rfl ?_
                      refine z_iload_n C d_Model_house_125 2 rfl rfl ?_
                      obtain ⟨r34, h33, hf⟩ := bd_s hf
                      refine z_cVi C kl_Model_191 rfl (c_Model_of hm h33) (zm4 hm 80 rfl) rfl rfl rfl (Nat.le_of_ble_eq_true rfl) ⟨(Nat.le_of_ble_eq_true rfl), (Nat.le_of_ble_eq_true rfl)⟩ ⟨(Nat.le_of_ble_eq_true rfl), (Nat.le_of_ble_eq_true rfl)⟩ d_Model_house_126 ?_
                      refine z_goto (tgt := 137) C d_Model_house_129 rfl ?_
                      cases hf
                      exact z_iret C rfl (Nat.le_of_ble_eq_true rfl) (Nat.le_of_ble_eq_true rfl) d_Model_house_137
  · have hf := iff_t hf h39
    refine z_aload_n C d_Model_house_13 0 rfl rfl ?_
    refine z_iconst C d_Model_house_14 zki_1 ?_
    obtain ⟨r37, σ38, h36, hf⟩ := bd2_s hf
    refine z_cVi C kl_Model_62 rfl (c_Model_fail hm h36) (zm4 hm 80 rfl) rfl rfl rfl (Nat.le_of_ble_eq_true rfl) ⟨(Nat.le_of_ble_eq_true rfl), (Nat.le_of_ble_eq_true rfl)⟩ ⟨(Nat.le_of_ble_eq_true rfl), (Nat.le_of_ble_eq_true rfl)⟩ d_Model_house_15 ?_
    cases hf
    exact z_iret C rfl (Nat.le_of_ble_eq_true rfl) (Nat.le_of_ble_eq_true rfl) d_Model_house_18
abbrev rm_Model_isOwed : Room := { frames := 2, cells := 0, slots := 0, locals := 44 }
theorem d_Model_isOwed_0 : decode b_Model_isOwed 0 = .ok (.aload_n 0, 1) := by decide +kernel
theorem d_Model_isOwed_1 : decode b_Model_isOwed 1 = .ok (.iload_n 1, 1) := by decide +kernel
theorem d_Model_isOwed_2 : decode b_Model_isOwed 2 = .ok (.iload_n 3, 1) := by decide +kernel
theorem d_Model_isOwed_3 : decode b_Model_isOwed 3 = .ok (.iconst 2, 1) := by decide +kernel
theorem d_Model_isOwed_4 : decode b_Model_isOwed 4 = .ok (.invokevirtual 209, 3) := by decide +kernel
theorem d_Model_isOwed_7 : decode b_Model_isOwed 7 = .ok (.iload_n 2, 1) := by decide +kernel
theorem d_Model_isOwed_8 : decode b_Model_isOwed 8 = .ok (.if_icmp .eq 14, 3) := by decide +kernel
theorem d_Model_isOwed_11 : decode b_Model_isOwed 11 = .ok (.aload_n 0, 1) := by decide +kernel
theorem d_Model_isOwed_12 : decode b_Model_isOwed 12 = .ok (.iload_n 2, 1) := by decide +kernel
theorem d_Model_isOwed_13 : decode b_Model_isOwed 13 = .ok (.iload_n 3, 1) := by decide +kernel
theorem d_Model_isOwed_14 : decode b_Model_isOwed 14 = .ok (.iconst 2, 1) := by decide +kernel
theorem d_Model_isOwed_15 : decode b_Model_isOwed 15 = .ok (.invokevirtual 209, 3) := by decide +kernel
theorem d_Model_isOwed_18 : decode b_Model_isOwed 18 = .ok (.iload_n 1, 1) := by decide +kernel
theorem d_Model_isOwed_19 : decode b_Model_isOwed 19 = .ok (.if_icmp .ne 7, 3) := by decide +kernel
theorem d_Model_isOwed_22 : decode b_Model_isOwed 22 = .ok (.iconst 1, 1) := by decide +kernel
theorem d_Model_isOwed_23 : decode b_Model_isOwed 23 = .ok (.goto 4, 3) := by decide +kernel
theorem d_Model_isOwed_26 : decode b_Model_isOwed 26 = .ok (.iconst 0, 1) := by decide +kernel
theorem d_Model_isOwed_27 : decode b_Model_isOwed 27 = .ok (.istore 4, 2) := by decide +kernel
theorem d_Model_isOwed_29 : decode b_Model_isOwed 29 = .ok (.iload 4, 2) := by decide +kernel
theorem d_Model_isOwed_31 : decode b_Model_isOwed 31 = .ok (.ifCond .eq 28, 3) := by decide +kernel
theorem d_Model_isOwed_34 : decode b_Model_isOwed 34 = .ok (.aload_n 0, 1) := by decide +kernel
theorem d_Model_isOwed_35 : decode b_Model_isOwed 35 = .ok (.iload_n 1, 1) := by decide +kernel
theorem d_Model_isOwed_36 : decode b_Model_isOwed 36 = .ok (.iload_n 3, 1) := by decide +kernel
theorem d_Model_isOwed_37 : decode b_Model_isOwed 37 = .ok (.iconst 1, 1) := by decide +kernel
theorem d_Model_isOwed_38 : decode b_Model_isOwed 38 = .ok (.invokevirtual 209, 3) := by decide +kernel
theorem d_Model_isOwed_41 : decode b_Model_isOwed 41 = .ok (.iconst 1, 1) := by decide +kernel
theorem d_Model_isOwed_42 : decode b_Model_isOwed 42 = .ok (.if_icmp .ne 17, 3) := by decide +kernel
theorem d_Model_isOwed_45 : decode b_Model_isOwed 45 = .ok (.aload_n 0, 1) := by decide +kernel
theorem d_Model_isOwed_46 : decode b_Model_isOwed 46 = .ok (.iload_n 2, 1) := by decide +kernel
theorem d_Model_isOwed_47 : decode b_Model_isOwed 47 = .ok (.iload_n 3, 1) := by decide +kernel
theorem d_Model_isOwed_48 : decode b_Model_isOwed 48 = .ok (.iconst 1, 1) := by decide +kernel
theorem d_Model_isOwed_49 : decode b_Model_isOwed 49 = .ok (.invokevirtual 209, 3) := by decide +kernel
theorem d_Model_isOwed_52 : decode b_Model_isOwed 52 = .ok (.ifCond .ne 7, 3) := by decide +kernel
theorem d_Model_isOwed_55 : decode b_Model_isOwed 55 = .ok (.iconst 1, 1) := by decide +kernel
theorem d_Model_isOwed_56 : decode b_Model_isOwed 56 = .ok (.goto 4, 3) := by decide +kernel
theorem d_Model_isOwed_59 : decode b_Model_isOwed 59 = .ok (.iconst 0, 1) := by decide +kernel
theorem d_Model_isOwed_60 : decode b_Model_isOwed 60 = .ok (.ireturn, 1) := by decide +kernel
def B_Model_isOwed_27 (x1 : Int32) (x2 : Int32) (x3 : Int32) (y0 : Int32) (σ : zSt) : Option (Int32) :=
  if y0 = 0 then some (0 : Int32) else ((F_Model_pair x1 x3 (1 : Int32) σ).bind fun r8 => if r8 = (1 : Int32) then ((F_Model_pair x2 x3 (1 : Int32) σ).bind fun r10 => if r10 = 0 then some (1 : Int32) else some (0 : Int32)) else some (0 : Int32))
set_option maxHeartbeats 4000000 in
set_option maxRecDepth 100000 in
theorem w_Model_isOwed_27 {l : Launch} {G : zLA} {p : Program} {e : Env} {s : State} {m : MethodId} {args : Array Value} {below : List Frame} {meth : Method} {c : Code} (C : zCx G p s m args meth c "VillageWavesModel" b_Model_isOwed 5 (some .boolean)) (hm : zml G) {x1 : Int32} {x2 : Int32} {x3 : Int32} {y0 : Int32} {σ : zSt} {r : Int32} (hf : B_Model_isOwed_27 x1 x2 x3 y0 σ = some r) : zWV G p l e rm_Model_isOwed s m args below meth c 5 0 0 (zQ G below args s rm_Model_isOwed (some (.int r)) σ) 27 [(0, .ref (zad G 4 80)), (1, .int x1), (2, .int x2), (3, .int x3)] [.int y0] σ := by
  rw [B_Model_isOwed_27] at hf
  refine z_istore C d_Model_isOwed_27 (by decide) ?_
  refine z_iload C d_Model_isOwed_29 0 rfl ?_
  refine z_if_eq (tgt := 59) C d_Model_isOwed_31 rfl (fun h13 => ?_) (fun h13 => ?_)
  · have hf := iff_t hf h13
    refine z_iconst C d_Model_isOwed_59 zki_0 ?_
    cases hf
    exact z_zret C rfl rfl (Nat.le_of_ble_eq_true rfl) (Nat.le_of_ble_eq_true rfl) d_Model_isOwed_60
  · have hf := iff_f hf h13
    refine z_aload_n C d_Model_isOwed_34 1 rfl rfl ?_
    refine z_iload_n C d_Model_isOwed_35 2 rfl rfl ?_
    refine z_iload_n C d_Model_isOwed_36 4 rfl rfl ?_
    refine z_iconst C d_Model_isOwed_37 zki_1 ?_
    obtain ⟨r8, h7, hf⟩ := bd_s hf
    refine z_cVi C kl_Model_209 rfl (c_Model_pair hm h7) (zm4 hm 80 rfl) rfl rfl rfl (Nat.le_of_ble_eq_true rfl) ⟨(Nat.le_of_ble_eq_true rfl), (Nat.le_of_ble_eq_true rfl)⟩ ⟨(Nat.le_of_ble_eq_true rfl), (Nat.le_of_ble_eq_true rfl)⟩ d_Model_isOwed_38 ?_
    refine z_iconst C d_Model_isOwed_41 zki_1 ?_
    refine z_icmp_ne (tgt := 59) C d_Model_isOwed_42 rfl (fun h12 => ?_) (fun h12 => ?_)
    · have hf := iff_f hf h12
      refine z_iconst C d_Model_isOwed_59 zki_0 ?_
      cases hf
      exact z_zret C rfl rfl (Nat.le_of_ble_eq_true rfl) (Nat.le_of_ble_eq_true rfl) d_Model_isOwed_60
    · have hf := iff_t hf h12
      refine z_aload_n C d_Model_isOwed_45 1 rfl rfl ?_
      refine z_iload_n C d_Model_isOwed_46 3 rfl rfl ?_
      refine z_iload_n C d_Model_isOwed_47 4 rfl rfl ?_
      refine z_iconst C d_Model_isOwed_48 zki_1 ?_
      obtain ⟨r10, h9, hf⟩ := bd_s hf
      refine z_cVi C kl_Model_209 rfl (c_Model_pair hm h9) (zm4 hm 80 rfl) rfl rfl rfl (Nat.le_of_ble_eq_true rfl) ⟨(Nat.le_of_ble_eq_true rfl), (Nat.le_of_ble_eq_true rfl)⟩ ⟨(Nat.le_of_ble_eq_true rfl), (Nat.le_of_ble_eq_true rfl)⟩ d_Model_isOwed_49 ?_
      refine z_if_ne (tgt := 59) C d_Model_isOwed_52 rfl (fun h11 => ?_) (fun h11 => ?_)
      · have hf := iff_f hf h11
        refine z_iconst C d_Model_isOwed_59 zki_0 ?_
        cases hf
        exact z_zret C rfl rfl (Nat.le_of_ble_eq_true rfl) (Nat.le_of_ble_eq_true rfl) d_Model_isOwed_60
      · have hf := iff_t hf h11
        refine z_iconst C d_Model_isOwed_55 zki_1 ?_
        refine z_goto (tgt := 60) C d_Model_isOwed_56 rfl ?_
        cases hf
        exact z_zret C rfl rfl (Nat.le_of_ble_eq_true rfl) (Nat.le_of_ble_eq_true rfl) d_Model_isOwed_60
def F_Model_isOwed (a0 : Int32) (a1 : Int32) (a2 : Int32) (σ : zSt) : Option (Int32) :=
  (F_Model_pair a0 a2 (2 : Int32) σ).bind fun r2 => if r2 = a1 then B_Model_isOwed_27 a0 a1 a2 (1 : Int32) σ else ((F_Model_pair a1 a2 (2 : Int32) σ).bind fun r4 => if r4 = a0 then B_Model_isOwed_27 a0 a1 a2 (1 : Int32) σ else B_Model_isOwed_27 a0 a1 a2 (0 : Int32) σ)
set_option maxHeartbeats 4000000 in
set_option maxRecDepth 100000 in
theorem c_Model_isOwed {l : Launch} {G : zLA} (hm : zml G) {a0 : Int32} {a1 : Int32} {a2 : Int32} {σ : zSt} {r : Int32} (hf : F_Model_isOwed a0 a1 a2 σ = some r) : zM l G y_Model_isOwed (zws y_Model_isOwed b_Model_isOwed 5 (some .boolean)) rm_Model_isOwed [.ref (zad G 4 80), .int a0, .int a1, .int a2] σ (some (.int r)) σ := by
  refine z_ofM (own := "VillageWavesModel") (lv := [(0, .ref (zad G 4 80)), (1, .int a0), (2, .int a1), (3, .int a2)]) (by decide +kernel) rfl rfl (Nat.le_of_ble_eq_true rfl) (fun p e s m args below meth c C => ?_)
  rw [F_Model_isOwed] at hf
  refine z_aload_n C d_Model_isOwed_0 0 rfl rfl ?_
  refine z_iload_n C d_Model_isOwed_1 1 rfl rfl ?_
  refine z_iload_n C d_Model_isOwed_2 3 rfl rfl ?_
  refine z_iconst C d_Model_isOwed_3 zki_2 ?_
  obtain ⟨r2, h1, hf⟩ := bd_s hf
  refine z_cVi C kl_Model_209 rfl (c_Model_pair hm h1) (zm4 hm 80 rfl) rfl rfl rfl (Nat.le_of_ble_eq_true rfl) ⟨(Nat.le_of_ble_eq_true rfl), (Nat.le_of_ble_eq_true rfl)⟩ ⟨(Nat.le_of_ble_eq_true rfl), (Nat.le_of_ble_eq_true rfl)⟩ d_Model_isOwed_4 ?_
  refine z_iload_n C d_Model_isOwed_7 2 rfl rfl ?_
  refine z_icmp_eq (tgt := 22) C d_Model_isOwed_8 rfl (fun h6 => ?_) (fun h6 => ?_)
  · have hf := iff_t hf h6
    refine z_iconst C d_Model_isOwed_22 zki_1 ?_
    refine z_goto (tgt := 27) C d_Model_isOwed_23 rfl ?_
    exact z_sub [0, 1, 2, 3] rfl (w_Model_isOwed_27 C hm hf)
  · have hf := iff_f hf h6
    refine z_aload_n C d_Model_isOwed_11 0 rfl rfl ?_
    refine z_iload_n C d_Model_isOwed_12 2 rfl rfl ?_
    refine z_iload_n C d_Model_isOwed_13 3 rfl rfl ?_
    refine z_iconst C d_Model_isOwed_14 zki_2 ?_
    obtain ⟨r4, h3, hf⟩ := bd_s hf
    refine z_cVi C kl_Model_209 rfl (c_Model_pair hm h3) (zm4 hm 80 rfl) rfl rfl rfl (Nat.le_of_ble_eq_true rfl) ⟨(Nat.le_of_ble_eq_true rfl), (Nat.le_of_ble_eq_true rfl)⟩ ⟨(Nat.le_of_ble_eq_true rfl), (Nat.le_of_ble_eq_true rfl)⟩ d_Model_isOwed_15 ?_
    refine z_iload_n C d_Model_isOwed_18 1 rfl rfl ?_
    refine z_icmp_ne (tgt := 26) C d_Model_isOwed_19 rfl (fun h5 => ?_) (fun h5 => ?_)
    · have hf := iff_f hf h5
      refine z_iconst C d_Model_isOwed_26 zki_0 ?_
      exact z_sub [0, 1, 2, 3] rfl (w_Model_isOwed_27 C hm hf)
    · have hf := iff_t hf h5
      refine z_iconst C d_Model_isOwed_22 zki_1 ?_
      refine z_goto (tgt := 27) C d_Model_isOwed_23 rfl ?_
      exact z_sub [0, 1, 2, 3] rfl (w_Model_isOwed_27 C hm hf)
abbrev rm_Model_owedBy : Room := { frames := 3, cells := 0, slots := 0, locals := 68 }
theorem d_Model_owedBy_0 : decode b_Model_owedBy 0 = .ok (.iconst 0, 1) := by decide +kernel
theorem d_Model_owedBy_1 : decode b_Model_owedBy 1 = .ok (.istore_n 3, 1) := by decide +kernel
theorem d_Model_owedBy_2 : decode b_Model_owedBy 2 = .ok (.iconst 0, 1) := by decide +kernel
theorem d_Model_owedBy_3 : decode b_Model_owedBy 3 = .ok (.istore 4, 2) := by decide +kernel
theorem d_Model_owedBy_5 : decode b_Model_owedBy 5 = .ok (.iload 4, 2) := by decide +kernel
theorem d_Model_owedBy_7 : decode b_Model_owedBy 7 = .ok (.aload_n 0, 1) := by decide +kernel
theorem d_Model_owedBy_8 : decode b_Model_owedBy 8 = .ok (.getfield 7, 3) := by decide +kernel
theorem d_Model_owedBy_11 : decode b_Model_owedBy 11 = .ok (.bipush 6, 2) := by decide +kernel
theorem d_Model_owedBy_13 : decode b_Model_owedBy 13 = .ok (.iaload, 1) := by decide +kernel
theorem d_Model_owedBy_14 : decode b_Model_owedBy 14 = .ok (.if_icmp .ge 31, 3) := by decide +kernel
theorem d_Model_owedBy_17 : decode b_Model_owedBy 17 = .ok (.iload_n 3, 1) := by decide +kernel
theorem d_Model_owedBy_18 : decode b_Model_owedBy 18 = .ok (.aload_n 0, 1) := by decide +kernel
theorem d_Model_owedBy_19 : decode b_Model_owedBy 19 = .ok (.iload_n 1, 1) := by decide +kernel
theorem d_Model_owedBy_20 : decode b_Model_owedBy 20 = .ok (.iload 4, 2) := by decide +kernel
theorem d_Model_owedBy_22 : decode b_Model_owedBy 22 = .ok (.iload_n 2, 1) := by decide +kernel
theorem d_Model_owedBy_23 : decode b_Model_owedBy 23 = .ok (.invokevirtual 246, 3) := by decide +kernel
theorem d_Model_owedBy_26 : decode b_Model_owedBy 26 = .ok (.ifCond .eq 10, 3) := by decide +kernel
theorem d_Model_owedBy_29 : decode b_Model_owedBy 29 = .ok (.iconst 1, 1) := by decide +kernel
theorem d_Model_owedBy_30 : decode b_Model_owedBy 30 = .ok (.iload 4, 2) := by decide +kernel
theorem d_Model_owedBy_32 : decode b_Model_owedBy 32 = .ok (.ishl, 1) := by decide +kernel
theorem d_Model_owedBy_33 : decode b_Model_owedBy 33 = .ok (.goto 4, 3) := by decide +kernel
theorem d_Model_owedBy_36 : decode b_Model_owedBy 36 = .ok (.iconst 0, 1) := by decide +kernel
theorem d_Model_owedBy_37 : decode b_Model_owedBy 37 = .ok (.iadd, 1) := by decide +kernel
theorem d_Model_owedBy_38 : decode b_Model_owedBy 38 = .ok (.istore_n 3, 1) := by decide +kernel
theorem d_Model_owedBy_39 : decode b_Model_owedBy 39 = .ok (.iinc 4 1, 3) := by decide +kernel
theorem d_Model_owedBy_42 : decode b_Model_owedBy 42 = .ok (.goto (-37), 3) := by decide +kernel
theorem d_Model_owedBy_45 : decode b_Model_owedBy 45 = .ok (.iload_n 3, 1) := by decide +kernel
theorem d_Model_owedBy_46 : decode b_Model_owedBy 46 = .ok (.ireturn, 1) := by decide +kernel
def L_Model_owedBy (σ : zSt) : Nat → Nat → Int32 → Int32 → Int32 → Int32 → Option (Int32)
  | 0, _, _, _, _, _ => none
  | n + 1, 0, x1, x2, x3, x4 => if (σ.1 4 81 6) ≤ x4 then some x3 else ((F_Model_isOwed x1 x4 x2 σ).bind fun r2 => if r2 = 0 then L_Model_owedBy σ n 0 x1 x2 (x3 + (0 : Int32)) (x4 + (1 : Int32)) else L_Model_owedBy σ n 0 x1 x2 (x3 + ((1 : Int32) <<< (x4 &&& 31))) (x4 + (1 : Int32)))
  | _ + 1, _, _, _, _, _ => none
theorem e_Model_owedBy_0 (σ : zSt) (n : Nat) (x1 : Int32) (x2 : Int32) (x3 : Int32) (x4 : Int32) : L_Model_owedBy σ (n + 1) 0 x1 x2 x3 x4 = (if (σ.1 4 81 6) ≤ x4 then some x3 else ((F_Model_isOwed x1 x4 x2 σ).bind fun r2 => if r2 = 0 then L_Model_owedBy σ n 0 x1 x2 (x3 + (0 : Int32)) (x4 + (1 : Int32)) else L_Model_owedBy σ n 0 x1 x2 (x3 + ((1 : Int32) <<< (x4 &&& 31))) (x4 + (1 : Int32)))) := rfl
set_option maxHeartbeats 4000000 in
set_option maxRecDepth 100000 in
theorem w_Model_owedBy {l : Launch} {G : zLA} {p : Program} {e : Env} {s : State} {m : MethodId} {args : Array Value} {below : List Frame} {meth : Method} {c : Code} (C : zCx G p s m args meth c "VillageWavesModel" b_Model_owedBy 5 (some .int)) (hm : zml G) {σ : zSt} {r : Int32} : ∀ n : Nat, (∀ (x1 : Int32) (x2 : Int32) (x3 : Int32) (x4 : Int32), L_Model_owedBy σ n 0 x1 x2 x3 x4 = some r → zWV G p l e rm_Model_owedBy s m args below meth c 5 0 0 (zQ G below args s rm_Model_owedBy (some (.int r)) σ) 5 [(0, .ref (zad G 4 80)), (1, .int x1), (2, .int x2), (3, .int x3), (4, .int x4)] [] σ) := by
  intro n
  induction n with
  | zero => exact fun _ _ _ _ hf => (by cases hf)
  | succ n ih =>
    refine ?_
    · intro x1 x2 x3 x4 hf
      rw [e_Model_owedBy_0] at hf
      refine z_iload C d_Model_owedBy_5 4 rfl ?_
      refine z_aload_n C d_Model_owedBy_7 0 rfl rfl ?_
      refine gf_Model_7 C (zm4 hm 80 rfl) rfl rfl d_Model_owedBy_8 ?_
      refine z_bipush C d_Model_owedBy_11 zkb_6 ?_
      refine z_iald C (zm4 hm 81 rfl) rfl (inb_in (by decide)) zc_6 d_Model_owedBy_13 ?_
      refine z_icmp_ge (tgt := 45) C d_Model_owedBy_14 rfl (fun h4 => ?_) (fun h4 => ?_)
      · have hf := iff_t hf h4
        refine z_iload_n C d_Model_owedBy_45 3 rfl rfl ?_
        cases hf
        exact z_iret C rfl (Nat.le_of_ble_eq_true rfl) (Nat.le_of_ble_eq_true rfl) d_Model_owedBy_46
      · have hf := iff_f hf h4
        refine z_iload_n C d_Model_owedBy_17 3 rfl rfl ?_
        refine z_aload_n C d_Model_owedBy_18 0 rfl rfl ?_
        refine z_iload_n C d_Model_owedBy_19 1 rfl rfl ?_
        refine z_iload C d_Model_owedBy_20 4 rfl ?_
        refine z_iload_n C d_Model_owedBy_22 2 rfl rfl ?_
        obtain ⟨r2, h1, hf⟩ := bd_s hf
        refine z_cVi C kl_Model_246 rfl (c_Model_isOwed hm h1) (zm4 hm 80 rfl) rfl rfl rfl (Nat.le_of_ble_eq_true rfl) ⟨(Nat.le_of_ble_eq_true rfl), (Nat.le_of_ble_eq_true rfl)⟩ ⟨(Nat.le_of_ble_eq_true rfl), (Nat.le_of_ble_eq_true rfl)⟩ d_Model_owedBy_23 ?_
        refine z_if_eq (tgt := 36) C d_Model_owedBy_26 rfl (fun h3 => ?_) (fun h3 => ?_)
        · have hf := iff_t hf h3
          refine z_iconst C d_Model_owedBy_36 zki_0 ?_
          refine z_iadd C d_Model_owedBy_37 ?_
          refine z_istore_n C d_Model_owedBy_38 rfl (by decide) ?_
          refine z_iinc C d_Model_owedBy_39 4 rfl zki_1 (by decide) ?_
          refine z_goto (tgt := 5) C d_Model_owedBy_42 rfl ?_
          exact z_sub [2, 3, 4, 1, 0] rfl (ih _ _ _ _ hf)
        · have hf := iff_f hf h3
          refine z_iconst C d_Model_owedBy_29 zki_1 ?_
          refine z_iload C d_Model_owedBy_30 4 rfl ?_
          refine z_ishl C d_Model_owedBy_32 ?_
          refine z_goto (tgt := 37) C d_Model_owedBy_33 rfl ?_
          refine z_iadd C d_Model_owedBy_37 ?_
          refine z_istore_n C d_Model_owedBy_38 rfl (by decide) ?_
          refine z_iinc C d_Model_owedBy_39 4 rfl zki_1 (by decide) ?_
          refine z_goto (tgt := 5) C d_Model_owedBy_42 rfl ?_
          exact z_sub [2, 3, 4, 1, 0] rfl (ih _ _ _ _ hf)
def F_Model_owedBy (a0 : Int32) (a1 : Int32) (σ : zSt) : Option (Int32) :=
  L_Model_owedBy σ zK 0 a0 a1 (0 : Int32) (0 : Int32)
set_option maxHeartbeats 4000000 in
set_option maxRecDepth 100000 in
theorem c_Model_owedBy {l : Launch} {G : zLA} (hm : zml G) {a0 : Int32} {a1 : Int32} {σ : zSt} {r : Int32} (hf : F_Model_owedBy a0 a1 σ = some r) : zM l G y_Model_owedBy (zws y_Model_owedBy b_Model_owedBy 5 (some .int)) rm_Model_owedBy [.ref (zad G 4 80), .int a0, .int a1] σ (some (.int r)) σ := by
  refine z_ofM (own := "VillageWavesModel") (lv := [(0, .ref (zad G 4 80)), (1, .int a0), (2, .int a1)]) (by decide +kernel) rfl rfl (Nat.le_of_ble_eq_true rfl) (fun p e s m args below meth c C => ?_)
  rw [F_Model_owedBy] at hf
  refine z_iconst C d_Model_owedBy_0 zki_0 ?_
  refine z_istore_n C d_Model_owedBy_1 rfl (by decide) ?_
  refine z_iconst C d_Model_owedBy_2 zki_0 ?_
  refine z_istore C d_Model_owedBy_3 (by decide) ?_
  exact z_sub [2, 3, 4, 1, 0] rfl ((w_Model_owedBy C hm zK) _ _ _ _ hf)
abbrev rm_Model_isCorrection : Room := { frames := 0, cells := 0, slots := 0, locals := 0 }
theorem d_Model_isCorrection_0 : decode b_Model_isCorrection 0 = .ok (.iload_n 1, 1) := by decide +kernel
theorem d_Model_isCorrection_1 : decode b_Model_isCorrection 1 = .ok (.iconst 2, 1) := by decide +kernel
theorem d_Model_isCorrection_2 : decode b_Model_isCorrection 2 = .ok (.irem, 1) := by decide +kernel
theorem d_Model_isCorrection_3 : decode b_Model_isCorrection 3 = .ok (.iconst 1, 1) := by decide +kernel
theorem d_Model_isCorrection_4 : decode b_Model_isCorrection 4 = .ok (.if_icmp .ne 7, 3) := by decide +kernel
theorem d_Model_isCorrection_7 : decode b_Model_isCorrection 7 = .ok (.iconst 1, 1) := by decide +kernel
theorem d_Model_isCorrection_8 : decode b_Model_isCorrection 8 = .ok (.goto 4, 3) := by decide +kernel
theorem d_Model_isCorrection_11 : decode b_Model_isCorrection 11 = .ok (.iconst 0, 1) := by decide +kernel
theorem d_Model_isCorrection_12 : decode b_Model_isCorrection 12 = .ok (.ireturn, 1) := by decide +kernel
def F_Model_isCorrection (a0 : Int32) (σ : zSt) : Option (Int32) :=
  if (a0 - a0 / (2 : Int32) * (2 : Int32)) = (1 : Int32) then some (1 : Int32) else some (0 : Int32)
set_option maxHeartbeats 4000000 in
set_option maxRecDepth 100000 in
theorem c_Model_isCorrection {l : Launch} {G : zLA} (hm : zml G) {a0 : Int32} {σ : zSt} {r : Int32} (hf : F_Model_isCorrection a0 σ = some r) : zM l G y_Model_isCorrection (zws y_Model_isCorrection b_Model_isCorrection 2 (some .boolean)) rm_Model_isCorrection [.ref (zad G 4 80), .int a0] σ (some (.int r)) σ := by
  refine z_ofM (own := "VillageWavesModel") (lv := [(0, .ref (zad G 4 80)), (1, .int a0)]) (by decide +kernel) rfl rfl (Nat.le_of_ble_eq_true rfl) (fun p e s m args below meth c C => ?_)
  rw [F_Model_isCorrection] at hf
  refine z_iload_n C d_Model_isCorrection_0 1 rfl rfl ?_
  refine z_iconst C d_Model_isCorrection_1 zki_2 ?_
  refine z_irem C d_Model_isCorrection_2 (by decide) ?_
  refine z_iconst C d_Model_isCorrection_3 zki_1 ?_
  refine z_icmp_ne (tgt := 11) C d_Model_isCorrection_4 rfl (fun h1 => ?_) (fun h1 => ?_)
  · have hf := iff_f hf h1
    refine z_iconst C d_Model_isCorrection_11 zki_0 ?_
    cases hf
    exact z_zret C rfl rfl (Nat.le_of_ble_eq_true rfl) (Nat.le_of_ble_eq_true rfl) d_Model_isCorrection_12
  · have hf := iff_t hf h1
    refine z_iconst C d_Model_isCorrection_7 zki_1 ?_
    refine z_goto (tgt := 12) C d_Model_isCorrection_8 rfl ?_
    cases hf
    exact z_zret C rfl rfl (Nat.le_of_ble_eq_true rfl) (Nat.le_of_ble_eq_true rfl) d_Model_isCorrection_12
abbrev rm_Model_timeOf : Room := { frames := 2, cells := 0, slots := 0, locals := 44 }
theorem d_Model_timeOf_0 : decode b_Model_timeOf 0 = .ok (.aload_n 0, 1) := by decide +kernel
theorem d_Model_timeOf_1 : decode b_Model_timeOf 1 = .ok (.iload_n 1, 1) := by decide +kernel
theorem d_Model_timeOf_2 : decode b_Model_timeOf 2 = .ok (.iload_n 2, 1) := by decide +kernel
theorem d_Model_timeOf_3 : decode b_Model_timeOf 3 = .ok (.iconst 2, 1) := by decide +kernel
theorem d_Model_timeOf_4 : decode b_Model_timeOf 4 = .ok (.idiv, 1) := by decide +kernel
theorem d_Model_timeOf_5 : decode b_Model_timeOf 5 = .ok (.aload_n 0, 1) := by decide +kernel
theorem d_Model_timeOf_6 : decode b_Model_timeOf 6 = .ok (.iload_n 2, 1) := by decide +kernel
theorem d_Model_timeOf_7 : decode b_Model_timeOf 7 = .ok (.invokevirtual 249, 3) := by decide +kernel
theorem d_Model_timeOf_10 : decode b_Model_timeOf 10 = .ok (.ifCond .eq 8, 3) := by decide +kernel
theorem d_Model_timeOf_13 : decode b_Model_timeOf 13 = .ok (.bipush 8, 2) := by decide +kernel
theorem d_Model_timeOf_15 : decode b_Model_timeOf 15 = .ok (.goto 4, 3) := by decide +kernel
theorem d_Model_timeOf_18 : decode b_Model_timeOf 18 = .ok (.iconst 5, 1) := by decide +kernel
theorem d_Model_timeOf_19 : decode b_Model_timeOf 19 = .ok (.invokevirtual 209, 3) := by decide +kernel
theorem d_Model_timeOf_22 : decode b_Model_timeOf 22 = .ok (.ireturn, 1) := by decide +kernel
def F_Model_timeOf (a0 : Int32) (a1 : Int32) (σ : zSt) : Option (Int32) :=
  (F_Model_isCorrection a1 σ).bind fun r2 => if r2 = 0 then ((F_Model_pair a0 (a1 / (2 : Int32)) (5 : Int32) σ).bind fun r4 => some r4) else ((F_Model_pair a0 (a1 / (2 : Int32)) (8 : Int32) σ).bind fun r6 => some r6)
set_option maxHeartbeats 4000000 in
set_option maxRecDepth 100000 in
theorem c_Model_timeOf {l : Launch} {G : zLA} (hm : zml G) {a0 : Int32} {a1 : Int32} {σ : zSt} {r : Int32} (hf : F_Model_timeOf a0 a1 σ = some r) : zM l G y_Model_timeOf (zws y_Model_timeOf b_Model_timeOf 3 (some .int)) rm_Model_timeOf [.ref (zad G 4 80), .int a0, .int a1] σ (some (.int r)) σ := by
  refine z_ofM (own := "VillageWavesModel") (lv := [(0, .ref (zad G 4 80)), (1, .int a0), (2, .int a1)]) (by decide +kernel) rfl rfl (Nat.le_of_ble_eq_true rfl) (fun p e s m args below meth c C => ?_)
  rw [F_Model_timeOf] at hf
  refine z_aload_n C d_Model_timeOf_0 0 rfl rfl ?_
  refine z_iload_n C d_Model_timeOf_1 1 rfl rfl ?_
  refine z_iload_n C d_Model_timeOf_2 2 rfl rfl ?_
  refine z_iconst C d_Model_timeOf_3 zki_2 ?_
  refine z_idiv C d_Model_timeOf_4 (by decide) ?_
  refine z_aload_n C d_Model_timeOf_5 0 rfl rfl ?_
  refine z_iload_n C d_Model_timeOf_6 2 rfl rfl ?_
  obtain ⟨r2, h1, hf⟩ := bd_s hf
  refine z_cVi C kl_Model_249 rfl (c_Model_isCorrection hm h1) (zm4 hm 80 rfl) rfl rfl rfl (Nat.le_of_ble_eq_true rfl) ⟨(Nat.le_of_ble_eq_true rfl), (Nat.le_of_ble_eq_true rfl)⟩ ⟨(Nat.le_of_ble_eq_true rfl), (Nat.le_of_ble_eq_true rfl)⟩ d_Model_timeOf_7 ?_
  refine z_if_eq (tgt := 18) C d_Model_timeOf_10 rfl (fun h7 => ?_) (fun h7 => ?_)
  · have hf := iff_t hf h7
    refine z_iconst C d_Model_timeOf_18 zki_5 ?_
    obtain ⟨r4, h3, hf⟩ := bd_s hf
    refine z_cVi C kl_Model_209 rfl (c_Model_pair hm h3) (zm4 hm 80 rfl) rfl rfl rfl (Nat.le_of_ble_eq_true rfl) ⟨(Nat.le_of_ble_eq_true rfl), (Nat.le_of_ble_eq_true rfl)⟩ ⟨(Nat.le_of_ble_eq_true rfl), (Nat.le_of_ble_eq_true rfl)⟩ d_Model_timeOf_19 ?_
    cases hf
    exact z_iret C rfl (Nat.le_of_ble_eq_true rfl) (Nat.le_of_ble_eq_true rfl) d_Model_timeOf_22
  · have hf := iff_f hf h7
    refine z_bipush C d_Model_timeOf_13 zkb_8 ?_
    refine z_goto (tgt := 19) C d_Model_timeOf_15 rfl ?_
    obtain ⟨r6, h5, hf⟩ := bd_s hf
    refine z_cVi C kl_Model_209 rfl (c_Model_pair hm h5) (zm4 hm 80 rfl) rfl rfl rfl (Nat.le_of_ble_eq_true rfl) ⟨(Nat.le_of_ble_eq_true rfl), (Nat.le_of_ble_eq_true rfl)⟩ ⟨(Nat.le_of_ble_eq_true rfl), (Nat.le_of_ble_eq_true rfl)⟩ d_Model_timeOf_19 ?_
    cases hf
    exact z_iret C rfl (Nat.le_of_ble_eq_true rfl) (Nat.le_of_ble_eq_true rfl) d_Model_timeOf_22
abbrev rm_Model_comesAhead : Room := { frames := 3, cells := 0, slots := 0, locals := 66 }
theorem d_Model_comesAhead_0 : decode b_Model_comesAhead 0 = .ok (.aload_n 0, 1) := by decide +kernel
theorem d_Model_comesAhead_1 : decode b_Model_comesAhead 1 = .ok (.iload_n 2, 1) := by decide +kernel
theorem d_Model_comesAhead_2 : decode b_Model_comesAhead 2 = .ok (.invokevirtual 249, 3) := by decide +kernel
theorem d_Model_comesAhead_5 : decode b_Model_comesAhead 5 = .ok (.aload_n 0, 1) := by decide +kernel
theorem d_Model_comesAhead_6 : decode b_Model_comesAhead 6 = .ok (.iload_n 3, 1) := by decide +kernel
theorem d_Model_comesAhead_7 : decode b_Model_comesAhead 7 = .ok (.invokevirtual 249, 3) := by decide +kernel
theorem d_Model_comesAhead_10 : decode b_Model_comesAhead 10 = .ok (.if_icmp .eq 9, 3) := by decide +kernel
theorem d_Model_comesAhead_13 : decode b_Model_comesAhead 13 = .ok (.aload_n 0, 1) := by decide +kernel
theorem d_Model_comesAhead_14 : decode b_Model_comesAhead 14 = .ok (.iload_n 2, 1) := by decide +kernel
theorem d_Model_comesAhead_15 : decode b_Model_comesAhead 15 = .ok (.invokevirtual 249, 3) := by decide +kernel
theorem d_Model_comesAhead_18 : decode b_Model_comesAhead 18 = .ok (.ireturn, 1) := by decide +kernel
theorem d_Model_comesAhead_19 : decode b_Model_comesAhead 19 = .ok (.aload_n 0, 1) := by decide +kernel
theorem d_Model_comesAhead_20 : decode b_Model_comesAhead 20 = .ok (.iload_n 1, 1) := by decide +kernel
theorem d_Model_comesAhead_21 : decode b_Model_comesAhead 21 = .ok (.iload_n 2, 1) := by decide +kernel
theorem d_Model_comesAhead_22 : decode b_Model_comesAhead 22 = .ok (.invokevirtual 252, 3) := by decide +kernel
theorem d_Model_comesAhead_25 : decode b_Model_comesAhead 25 = .ok (.aload_n 0, 1) := by decide +kernel
theorem d_Model_comesAhead_26 : decode b_Model_comesAhead 26 = .ok (.iload_n 1, 1) := by decide +kernel
theorem d_Model_comesAhead_27 : decode b_Model_comesAhead 27 = .ok (.iload_n 3, 1) := by decide +kernel
theorem d_Model_comesAhead_28 : decode b_Model_comesAhead 28 = .ok (.invokevirtual 252, 3) := by decide +kernel
theorem d_Model_comesAhead_31 : decode b_Model_comesAhead 31 = .ok (.isub, 1) := by decide +kernel
theorem d_Model_comesAhead_32 : decode b_Model_comesAhead 32 = .ok (.istore 4, 2) := by decide +kernel
theorem d_Model_comesAhead_34 : decode b_Model_comesAhead 34 = .ok (.iload 4, 2) := by decide +kernel
theorem d_Model_comesAhead_36 : decode b_Model_comesAhead 36 = .ok (.ifCond .lt 13, 3) := by decide +kernel
theorem d_Model_comesAhead_39 : decode b_Model_comesAhead 39 = .ok (.iload 4, 2) := by decide +kernel
theorem d_Model_comesAhead_41 : decode b_Model_comesAhead 41 = .ok (.ifCond .ne 12, 3) := by decide +kernel
theorem d_Model_comesAhead_44 : decode b_Model_comesAhead 44 = .ok (.iload_n 2, 1) := by decide +kernel
theorem d_Model_comesAhead_45 : decode b_Model_comesAhead 45 = .ok (.iload_n 3, 1) := by decide +kernel
theorem d_Model_comesAhead_46 : decode b_Model_comesAhead 46 = .ok (.if_icmp .ge 7, 3) := by decide +kernel
theorem d_Model_comesAhead_49 : decode b_Model_comesAhead 49 = .ok (.iconst 1, 1) := by decide +kernel
theorem d_Model_comesAhead_50 : decode b_Model_comesAhead 50 = .ok (.goto 4, 3) := by decide +kernel
theorem d_Model_comesAhead_53 : decode b_Model_comesAhead 53 = .ok (.iconst 0, 1) := by decide +kernel
theorem d_Model_comesAhead_54 : decode b_Model_comesAhead 54 = .ok (.ireturn, 1) := by decide +kernel
def F_Model_comesAhead (a0 : Int32) (a1 : Int32) (a2 : Int32) (σ : zSt) : Option (Int32) :=
  (F_Model_isCorrection a1 σ).bind fun r2 => (F_Model_isCorrection a2 σ).bind fun r4 => if r2 = r4 then ((F_Model_timeOf a0 a1 σ).bind fun r6 => (F_Model_timeOf a0 a2 σ).bind fun r8 => if (r6 - r8) < 0 then some (1 : Int32) else (if (r6 - r8) = 0 then (if a2 ≤ a1 then some (0 : Int32) else some (1 : Int32)) else some (0 : Int32))) else ((F_Model_isCorrection a1 σ).bind fun r13 => if (r13 = 0 ∨ r13 = 1) then some r13 else none)
set_option maxHeartbeats 4000000 in
set_option maxRecDepth 100000 in
theorem c_Model_comesAhead {l : Launch} {G : zLA} (hm : zml G) {a0 : Int32} {a1 : Int32} {a2 : Int32} {σ : zSt} {r : Int32} (hf : F_Model_comesAhead a0 a1 a2 σ = some r) : zM l G y_Model_comesAhead (zws y_Model_comesAhead b_Model_comesAhead 5 (some .boolean)) rm_Model_comesAhead [.ref (zad G 4 80), .int a0, .int a1, .int a2] σ (some (.int r)) σ := by
  refine z_ofM (own := "VillageWavesModel") (lv := [(0, .ref (zad G 4 80)), (1, .int a0), (2, .int a1), (3, .int a2)]) (by decide +kernel) rfl rfl (Nat.le_of_ble_eq_true rfl) (fun p e s m args below meth c C => ?_)
  rw [F_Model_comesAhead] at hf
  refine z_aload_n C d_Model_comesAhead_0 0 rfl rfl ?_
  refine z_iload_n C d_Model_comesAhead_1 2 rfl rfl ?_
  obtain ⟨r2, h1, hf⟩ := bd_s hf
  refine z_cVi C kl_Model_249 rfl (c_Model_isCorrection hm h1) (zm4 hm 80 rfl) rfl rfl rfl (Nat.le_of_ble_eq_true rfl) ⟨(Nat.le_of_ble_eq_true rfl), (Nat.le_of_ble_eq_true rfl)⟩ ⟨(Nat.le_of_ble_eq_true rfl), (Nat.le_of_ble_eq_true rfl)⟩ d_Model_comesAhead_2 ?_
  refine z_aload_n C d_Model_comesAhead_5 0 rfl rfl ?_
  refine z_iload_n C d_Model_comesAhead_6 3 rfl rfl ?_
  obtain ⟨r4, h3, hf⟩ := bd_s hf
  refine z_cVi C kl_Model_249 rfl (c_Model_isCorrection hm h3) (zm4 hm 80 rfl) rfl rfl rfl (Nat.le_of_ble_eq_true rfl) ⟨(Nat.le_of_ble_eq_true rfl), (Nat.le_of_ble_eq_true rfl)⟩ ⟨(Nat.le_of_ble_eq_true rfl), (Nat.le_of_ble_eq_true rfl)⟩ d_Model_comesAhead_7 ?_
  refine z_icmp_eq (tgt := 19) C d_Model_comesAhead_10 rfl (fun h15 => ?_) (fun h15 => ?_)
  · have hf := iff_t hf h15
    refine z_aload_n C d_Model_comesAhead_19 0 rfl rfl ?_
    refine z_iload_n C d_Model_comesAhead_20 1 rfl rfl ?_
    refine z_iload_n C d_Model_comesAhead_21 2 rfl rfl ?_
    obtain ⟨r6, h5, hf⟩ := bd_s hf
    refine z_cVi C kl_Model_252 rfl (c_Model_timeOf hm h5) (zm4 hm 80 rfl) rfl rfl rfl (Nat.le_of_ble_eq_true rfl) ⟨(Nat.le_of_ble_eq_true rfl), (Nat.le_of_ble_eq_true rfl)⟩ ⟨(Nat.le_of_ble_eq_true rfl), (Nat.le_of_ble_eq_true rfl)⟩ d_Model_comesAhead_22 ?_
    refine z_aload_n C d_Model_comesAhead_25 0 rfl rfl ?_
    refine z_iload_n C d_Model_comesAhead_26 1 rfl rfl ?_
    refine z_iload_n C d_Model_comesAhead_27 3 rfl rfl ?_
    obtain ⟨r8, h7, hf⟩ := bd_s hf
    refine z_cVi C kl_Model_252 rfl (c_Model_timeOf hm h7) (zm4 hm 80 rfl) rfl rfl rfl (Nat.le_of_ble_eq_true rfl) ⟨(Nat.le_of_ble_eq_true rfl), (Nat.le_of_ble_eq_true rfl)⟩ ⟨(Nat.le_of_ble_eq_true rfl), (Nat.le_of_ble_eq_true rfl)⟩ d_Model_comesAhead_28 ?_
    refine z_isub C d_Model_comesAhead_31 ?_
    refine z_istore C d_Model_comesAhead_32 (by decide) ?_
    refine z_iload C d_Model_comesAhead_34 0 rfl ?_
    refine z_if_lt (tgt := 49) C d_Model_comesAhead_36 rfl (fun h11 => ?_) (fun h11 => ?_)
    · have hf := iff_t hf h11
      refine z_iconst C d_Model_comesAhead_49 zki_1 ?_
      refine z_goto (tgt := 54) C d_Model_comesAhead_50 rfl ?_
      cases hf
      exact z_zret C rfl rfl (Nat.le_of_ble_eq_true rfl) (Nat.le_of_ble_eq_true rfl) d_Model_comesAhead_54
    · have hf := iff_f hf h11
      refine z_iload C d_Model_comesAhead_39 0 rfl ?_
      refine z_if_ne (tgt := 53) C d_Model_comesAhead_41 rfl (fun h10 => ?_) (fun h10 => ?_)
      · have hf := iff_f hf h10
        refine z_iconst C d_Model_comesAhead_53 zki_0 ?_
        cases hf
        exact z_zret C rfl rfl (Nat.le_of_ble_eq_true rfl) (Nat.le_of_ble_eq_true rfl) d_Model_comesAhead_54
      · have hf := iff_t hf h10
        refine z_iload_n C d_Model_comesAhead_44 3 rfl rfl ?_
        refine z_iload_n C d_Model_comesAhead_45 4 rfl rfl ?_
        refine z_icmp_ge (tgt := 53) C d_Model_comesAhead_46 rfl (fun h9 => ?_) (fun h9 => ?_)
        · have hf := iff_t hf h9
          refine z_iconst C d_Model_comesAhead_53 zki_0 ?_
          cases hf
          exact z_zret C rfl rfl (Nat.le_of_ble_eq_true rfl) (Nat.le_of_ble_eq_true rfl) d_Model_comesAhead_54
        · have hf := iff_f hf h9
          refine z_iconst C d_Model_comesAhead_49 zki_1 ?_
          refine z_goto (tgt := 54) C d_Model_comesAhead_50 rfl ?_
          cases hf
          exact z_zret C rfl rfl (Nat.le_of_ble_eq_true rfl) (Nat.le_of_ble_eq_true rfl) d_Model_comesAhead_54
  · have hf := iff_f hf h15
    refine z_aload_n C d_Model_comesAhead_13 0 rfl rfl ?_
    refine z_iload_n C d_Model_comesAhead_14 2 rfl rfl ?_
    obtain ⟨r13, h12, hf⟩ := bd_s hf
    refine z_cVi C kl_Model_249 rfl (c_Model_isCorrection hm h12) (zm4 hm 80 rfl) rfl rfl rfl (Nat.le_of_ble_eq_true rfl) ⟨(Nat.le_of_ble_eq_true rfl), (Nat.le_of_ble_eq_true rfl)⟩ ⟨(Nat.le_of_ble_eq_true rfl), (Nat.le_of_ble_eq_true rfl)⟩ d_Model_comesAhead_15 ?_
    obtain ⟨h14, hf⟩ := iff_g hf
    cases hf
    exact z_zret C rfl (znb h14) (Nat.le_of_ble_eq_true rfl) (Nat.le_of_ble_eq_true rfl) d_Model_comesAhead_18
abbrev rm_Model_enqueue : Room := { frames := 4, cells := 0, slots := 0, locals := 90 }
theorem d_Model_enqueue_0 : decode b_Model_enqueue 0 = .ok (.aload_n 0, 1) := by decide +kernel
theorem d_Model_enqueue_1 : decode b_Model_enqueue 1 = .ok (.getfield 255, 3) := by decide +kernel
theorem d_Model_enqueue_4 : decode b_Model_enqueue 4 = .ok (.istore_n 3, 1) := by decide +kernel
theorem d_Model_enqueue_5 : decode b_Model_enqueue 5 = .ok (.iload_n 3, 1) := by decide +kernel
theorem d_Model_enqueue_6 : decode b_Model_enqueue 6 = .ok (.ifCond .le 40, 3) := by decide +kernel
theorem d_Model_enqueue_9 : decode b_Model_enqueue 9 = .ok (.aload_n 0, 1) := by decide +kernel
theorem d_Model_enqueue_10 : decode b_Model_enqueue 10 = .ok (.iload_n 1, 1) := by decide +kernel
theorem d_Model_enqueue_11 : decode b_Model_enqueue 11 = .ok (.iload_n 2, 1) := by decide +kernel
theorem d_Model_enqueue_12 : decode b_Model_enqueue 12 = .ok (.aload_n 0, 1) := by decide +kernel
theorem d_Model_enqueue_13 : decode b_Model_enqueue 13 = .ok (.getfield 42, 3) := by decide +kernel
theorem d_Model_enqueue_16 : decode b_Model_enqueue 16 = .ok (.iload_n 3, 1) := by decide +kernel
theorem d_Model_enqueue_17 : decode b_Model_enqueue 17 = .ok (.iconst 1, 1) := by decide +kernel
theorem d_Model_enqueue_18 : decode b_Model_enqueue 18 = .ok (.isub, 1) := by decide +kernel
theorem d_Model_enqueue_19 : decode b_Model_enqueue 19 = .ok (.iaload, 1) := by decide +kernel
theorem d_Model_enqueue_20 : decode b_Model_enqueue 20 = .ok (.invokevirtual 258, 3) := by decide +kernel
theorem d_Model_enqueue_23 : decode b_Model_enqueue 23 = .ok (.ifCond .eq 23, 3) := by decide +kernel
theorem d_Model_enqueue_26 : decode b_Model_enqueue 26 = .ok (.aload_n 0, 1) := by decide +kernel
theorem d_Model_enqueue_27 : decode b_Model_enqueue 27 = .ok (.getfield 42, 3) := by decide +kernel
theorem d_Model_enqueue_30 : decode b_Model_enqueue 30 = .ok (.iload_n 3, 1) := by decide +kernel
theorem d_Model_enqueue_31 : decode b_Model_enqueue 31 = .ok (.aload_n 0, 1) := by decide +kernel
theorem d_Model_enqueue_32 : decode b_Model_enqueue 32 = .ok (.getfield 42, 3) := by decide +kernel
theorem d_Model_enqueue_35 : decode b_Model_enqueue 35 = .ok (.iload_n 3, 1) := by decide +kernel
theorem d_Model_enqueue_36 : decode b_Model_enqueue 36 = .ok (.iconst 1, 1) := by decide +kernel
theorem d_Model_enqueue_37 : decode b_Model_enqueue 37 = .ok (.isub, 1) := by decide +kernel
theorem d_Model_enqueue_38 : decode b_Model_enqueue 38 = .ok (.iaload, 1) := by decide +kernel
theorem d_Model_enqueue_39 : decode b_Model_enqueue 39 = .ok (.iastore, 1) := by decide +kernel
theorem d_Model_enqueue_40 : decode b_Model_enqueue 40 = .ok (.iinc 3 (-1), 3) := by decide +kernel
theorem d_Model_enqueue_43 : decode b_Model_enqueue 43 = .ok (.goto (-38), 3) := by decide +kernel
theorem d_Model_enqueue_46 : decode b_Model_enqueue 46 = .ok (.aload_n 0, 1) := by decide +kernel
theorem d_Model_enqueue_47 : decode b_Model_enqueue 47 = .ok (.getfield 42, 3) := by decide +kernel
theorem d_Model_enqueue_50 : decode b_Model_enqueue 50 = .ok (.iload_n 3, 1) := by decide +kernel
theorem d_Model_enqueue_51 : decode b_Model_enqueue 51 = .ok (.iload_n 2, 1) := by decide +kernel
theorem d_Model_enqueue_52 : decode b_Model_enqueue 52 = .ok (.iastore, 1) := by decide +kernel
theorem d_Model_enqueue_53 : decode b_Model_enqueue 53 = .ok (.aload_n 0, 1) := by decide +kernel
theorem d_Model_enqueue_54 : decode b_Model_enqueue 54 = .ok (.dup, 1) := by decide +kernel
theorem d_Model_enqueue_55 : decode b_Model_enqueue 55 = .ok (.getfield 255, 3) := by decide +kernel
theorem d_Model_enqueue_58 : decode b_Model_enqueue 58 = .ok (.iconst 1, 1) := by decide +kernel
theorem d_Model_enqueue_59 : decode b_Model_enqueue 59 = .ok (.iadd, 1) := by decide +kernel
theorem d_Model_enqueue_60 : decode b_Model_enqueue 60 = .ok (.putfield 255, 3) := by decide +kernel
theorem d_Model_enqueue_63 : decode b_Model_enqueue 63 = .ok (.return_, 1) := by decide +kernel
def L_Model_enqueue : Nat → Nat → Int32 → Int32 → Int32 → zSt → Option (zSt)
  | 0, _, _, _, _, _ => none
  | n + 1, 0, x1, x2, x3, σ => if x3 ≤ 0 then (if inb x3 40 = true then some (zst (zst σ 4 90 x3.toNatClampNeg x2) 4 80 20 (((zst σ 4 90 x3.toNatClampNeg x2).1 4 80 20) + (1 : Int32))) else none) else (if inb (x3 - (1 : Int32)) 40 = true then ((F_Model_comesAhead x1 x2 (σ.1 4 90 (x3 - (1 : Int32)).toNatClampNeg) σ).bind fun r3 => if r3 = 0 then (if inb x3 40 = true then some (zst (zst σ 4 90 x3.toNatClampNeg x2) 4 80 20 (((zst σ 4 90 x3.toNatClampNeg x2).1 4 80 20) + (1 : Int32))) else none) else (if inb (x3 - (1 : Int32)) 40 = true then (if inb x3 40 = true then L_Model_enqueue n 0 x1 x2 (x3 + (-1 : Int32)) (zst σ 4 90 x3.toNatClampNeg (σ.1 4 90 (x3 - (1 : Int32)).toNatClampNeg)) else none) else none)) else none)
  | _ + 1, _, _, _, _, _ => none
theorem e_Model_enqueue_0 (n : Nat) (x1 : Int32) (x2 : Int32) (x3 : Int32) (σ : zSt) : L_Model_enqueue (n + 1) 0 x1 x2 x3 σ = (if x3 ≤ 0 then (if inb x3 40 = true then some (zst (zst σ 4 90 x3.toNatClampNeg x2) 4 80 20 (((zst σ 4 90 x3.toNatClampNeg x2).1 4 80 20) + (1 : Int32))) else none) else (if inb (x3 - (1 : Int32)) 40 = true then ((F_Model_comesAhead x1 x2 (σ.1 4 90 (x3 - (1 : Int32)).toNatClampNeg) σ).bind fun r3 => if r3 = 0 then (if inb x3 40 = true then some (zst (zst σ 4 90 x3.toNatClampNeg x2) 4 80 20 (((zst σ 4 90 x3.toNatClampNeg x2).1 4 80 20) + (1 : Int32))) else none) else (if inb (x3 - (1 : Int32)) 40 = true then (if inb x3 40 = true then L_Model_enqueue n 0 x1 x2 (x3 + (-1 : Int32)) (zst σ 4 90 x3.toNatClampNeg (σ.1 4 90 (x3 - (1 : Int32)).toNatClampNeg)) else none) else none)) else none)) := rfl
set_option maxHeartbeats 4000000 in
set_option maxRecDepth 100000 in
theorem w_Model_enqueue {l : Launch} {G : zLA} {p : Program} {e : Env} {s : State} {m : MethodId} {args : Array Value} {below : List Frame} {meth : Method} {c : Code} (C : zCx G p s m args meth c "VillageWavesModel" b_Model_enqueue 4 none) (hm : zml G) {σ' : zSt} : ∀ n : Nat, (∀ (x1 : Int32) (x2 : Int32) (x3 : Int32) (σ : zSt), L_Model_enqueue n 0 x1 x2 x3 σ = some σ' → zWV G p l e rm_Model_enqueue s m args below meth c 4 0 0 (zQ G below args s rm_Model_enqueue none σ') 5 [(0, .ref (zad G 4 80)), (1, .int x1), (2, .int x2), (3, .int x3)] [] σ) := by
  intro n
  induction n with
  | zero => exact fun _ _ _ _ hf => (by cases hf)
  | succ n ih =>
    refine ?_
    · intro x1 x2 x3 σ hf
      rw [e_Model_enqueue_0] at hf
      refine z_iload_n C d_Model_enqueue_5 3 rfl rfl ?_
      refine z_if_le (tgt := 46) C d_Model_enqueue_6 rfl (fun h9 => ?_) (fun h9 => ?_)
      · have hf := iff_t hf h9
        refine z_aload_n C d_Model_enqueue_46 0 rfl rfl ?_
        refine gf_Model_42 C (zm4 hm 80 rfl) rfl rfl d_Model_enqueue_47 ?_
        refine z_iload_n C d_Model_enqueue_50 3 rfl rfl ?_
        refine z_iload_n C d_Model_enqueue_51 2 rfl rfl ?_
        obtain ⟨h1, hf⟩ := iff_g hf
        refine z_iast C (zm4 hm 90 rfl) (fun _ _ _ => rfl) (inb_in h1) rfl d_Model_enqueue_52 ?_
        refine z_aload_n C d_Model_enqueue_53 0 rfl rfl ?_
        refine z_dup C d_Model_enqueue_54 rfl ?_
        refine gf_Model_255 C (zm4 hm 80 rfl) rfl rfl d_Model_enqueue_55 ?_
        refine z_iconst C d_Model_enqueue_58 zki_1 ?_
        refine z_iadd C d_Model_enqueue_59 ?_
        refine pf_Model_255 C (zm4 hm 80 rfl) rfl (Nat.le_of_ble_eq_true rfl) rfl d_Model_enqueue_60 ?_
        cases hf
        exact z_vret C rfl (Nat.le_of_ble_eq_true rfl) (Nat.le_of_ble_eq_true rfl) d_Model_enqueue_63
      · have hf := iff_f hf h9
        refine z_aload_n C d_Model_enqueue_9 0 rfl rfl ?_
        refine z_iload_n C d_Model_enqueue_10 1 rfl rfl ?_
        refine z_iload_n C d_Model_enqueue_11 2 rfl rfl ?_
        refine z_aload_n C d_Model_enqueue_12 0 rfl rfl ?_
        refine gf_Model_42 C (zm4 hm 80 rfl) rfl rfl d_Model_enqueue_13 ?_
        refine z_iload_n C d_Model_enqueue_16 3 rfl rfl ?_
        refine z_iconst C d_Model_enqueue_17 zki_1 ?_
        refine z_isub C d_Model_enqueue_18 ?_
        obtain ⟨h8, hf⟩ := iff_g hf
        refine z_iald C (zm4 hm 90 rfl) rfl (inb_in h8) rfl d_Model_enqueue_19 ?_
        obtain ⟨r3, h2, hf⟩ := bd_s hf
        refine z_cVi C kl_Model_258 rfl (c_Model_comesAhead hm h2) (zm4 hm 80 rfl) rfl rfl rfl (Nat.le_of_ble_eq_true rfl) ⟨(Nat.le_of_ble_eq_true rfl), (Nat.le_of_ble_eq_true rfl)⟩ ⟨(Nat.le_of_ble_eq_true rfl), (Nat.le_of_ble_eq_true rfl)⟩ d_Model_enqueue_20 ?_
        refine z_if_eq (tgt := 46) C d_Model_enqueue_23 rfl (fun h7 => ?_) (fun h7 => ?_)
        · have hf := iff_t hf h7
          refine z_aload_n C d_Model_enqueue_46 0 rfl rfl ?_
          refine gf_Model_42 C (zm4 hm 80 rfl) rfl rfl d_Model_enqueue_47 ?_
          refine z_iload_n C d_Model_enqueue_50 3 rfl rfl ?_
          refine z_iload_n C d_Model_enqueue_51 2 rfl rfl ?_
          obtain ⟨h4, hf⟩ := iff_g hf
          refine z_iast C (zm4 hm 90 rfl) (fun _ _ _ => rfl) (inb_in h4) rfl d_Model_enqueue_52 ?_
          refine z_aload_n C d_Model_enqueue_53 0 rfl rfl ?_
          refine z_dup C d_Model_enqueue_54 rfl ?_
          refine gf_Model_255 C (zm4 hm 80 rfl) rfl rfl d_Model_enqueue_55 ?_
          refine z_iconst C d_Model_enqueue_58 zki_1 ?_
          refine z_iadd C d_Model_enqueue_59 ?_
          refine pf_Model_255 C (zm4 hm 80 rfl) rfl (Nat.le_of_ble_eq_true rfl) rfl d_Model_enqueue_60 ?_
          cases hf
          exact z_vret C rfl (Nat.le_of_ble_eq_true rfl) (Nat.le_of_ble_eq_true rfl) d_Model_enqueue_63
        · have hf := iff_f hf h7
          refine z_aload_n C d_Model_enqueue_26 0 rfl rfl ?_
          refine gf_Model_42 C (zm4 hm 80 rfl) rfl rfl d_Model_enqueue_27 ?_
          refine z_iload_n C d_Model_enqueue_30 3 rfl rfl ?_
          refine z_aload_n C d_Model_enqueue_31 0 rfl rfl ?_
          refine gf_Model_42 C (zm4 hm 80 rfl) rfl rfl d_Model_enqueue_32 ?_
          refine z_iload_n C d_Model_enqueue_35 3 rfl rfl ?_
          refine z_iconst C d_Model_enqueue_36 zki_1 ?_
          refine z_isub C d_Model_enqueue_37 ?_
          obtain ⟨h6, hf⟩ := iff_g hf
          refine z_iald C (zm4 hm 90 rfl) rfl (inb_in h6) rfl d_Model_enqueue_38 ?_
          obtain ⟨h5, hf⟩ := iff_g hf
          refine z_iast C (zm4 hm 90 rfl) (fun _ _ _ => rfl) (inb_in h5) rfl d_Model_enqueue_39 ?_
          refine z_iinc C d_Model_enqueue_40 3 rfl zki_m1 (by decide) ?_
          refine z_goto (tgt := 5) C d_Model_enqueue_43 rfl ?_
          exact z_sub [1, 2, 3, 0] rfl (ih _ _ _ _ hf)
def F_Model_enqueue (a0 : Int32) (a1 : Int32) (σ : zSt) : Option (zSt) :=
  L_Model_enqueue zK 0 a0 a1 (σ.1 4 80 20) σ
set_option maxHeartbeats 4000000 in
set_option maxRecDepth 100000 in
theorem c_Model_enqueue {l : Launch} {G : zLA} (hm : zml G) {a0 : Int32} {a1 : Int32} {σ : zSt} {σ' : zSt} (hf : F_Model_enqueue a0 a1 σ = some σ') : zM l G y_Model_enqueue (zws y_Model_enqueue b_Model_enqueue 4 none) rm_Model_enqueue [.ref (zad G 4 80), .int a0, .int a1] σ none σ' := by
  refine z_ofM (own := "VillageWavesModel") (lv := [(0, .ref (zad G 4 80)), (1, .int a0), (2, .int a1)]) (by decide +kernel) rfl rfl (Nat.le_of_ble_eq_true rfl) (fun p e s m args below meth c C => ?_)
  rw [F_Model_enqueue] at hf
  refine z_aload_n C d_Model_enqueue_0 0 rfl rfl ?_
  refine gf_Model_255 C (zm4 hm 80 rfl) rfl rfl d_Model_enqueue_1 ?_
  refine z_istore_n C d_Model_enqueue_4 rfl (by decide) ?_
  exact z_sub [1, 2, 3, 0] rfl ((w_Model_enqueue C hm zK) _ _ _ _ hf)
abbrev rm_Model_layQueue : Room := { frames := 5, cells := 0, slots := 0, locals := 113 }
theorem d_Model_layQueue_0 : decode b_Model_layQueue 0 = .ok (.aload_n 0, 1) := by decide +kernel
theorem d_Model_layQueue_1 : decode b_Model_layQueue 1 = .ok (.iconst 0, 1) := by decide +kernel
theorem d_Model_layQueue_2 : decode b_Model_layQueue 2 = .ok (.putfield 255, 3) := by decide +kernel
theorem d_Model_layQueue_5 : decode b_Model_layQueue 5 = .ok (.iconst 0, 1) := by decide +kernel
theorem d_Model_layQueue_6 : decode b_Model_layQueue 6 = .ok (.istore_n 2, 1) := by decide +kernel
theorem d_Model_layQueue_7 : decode b_Model_layQueue 7 = .ok (.iload_n 2, 1) := by decide +kernel
theorem d_Model_layQueue_8 : decode b_Model_layQueue 8 = .ok (.aload_n 0, 1) := by decide +kernel
theorem d_Model_layQueue_9 : decode b_Model_layQueue 9 = .ok (.getfield 7, 3) := by decide +kernel
theorem d_Model_layQueue_12 : decode b_Model_layQueue 12 = .ok (.bipush 7, 2) := by decide +kernel
theorem d_Model_layQueue_14 : decode b_Model_layQueue 14 = .ok (.iaload, 1) := by decide +kernel
theorem d_Model_layQueue_15 : decode b_Model_layQueue 15 = .ok (.if_icmp .ge 50, 3) := by decide +kernel
theorem d_Model_layQueue_18 : decode b_Model_layQueue 18 = .ok (.aload_n 0, 1) := by decide +kernel
theorem d_Model_layQueue_19 : decode b_Model_layQueue 19 = .ok (.iload_n 1, 1) := by decide +kernel
theorem d_Model_layQueue_20 : decode b_Model_layQueue 20 = .ok (.iload_n 2, 1) := by decide +kernel
theorem d_Model_layQueue_21 : decode b_Model_layQueue 21 = .ok (.iconst 4, 1) := by decide +kernel
theorem d_Model_layQueue_22 : decode b_Model_layQueue 22 = .ok (.invokevirtual 209, 3) := by decide +kernel
theorem d_Model_layQueue_25 : decode b_Model_layQueue 25 = .ok (.iconst 1, 1) := by decide +kernel
theorem d_Model_layQueue_26 : decode b_Model_layQueue 26 = .ok (.if_icmp .ne 11, 3) := by decide +kernel
theorem d_Model_layQueue_29 : decode b_Model_layQueue 29 = .ok (.aload_n 0, 1) := by decide +kernel
theorem d_Model_layQueue_30 : decode b_Model_layQueue 30 = .ok (.iload_n 1, 1) := by decide +kernel
theorem d_Model_layQueue_31 : decode b_Model_layQueue 31 = .ok (.iconst 2, 1) := by decide +kernel
theorem d_Model_layQueue_32 : decode b_Model_layQueue 32 = .ok (.iload_n 2, 1) := by decide +kernel
theorem d_Model_layQueue_33 : decode b_Model_layQueue 33 = .ok (.imul, 1) := by decide +kernel
theorem d_Model_layQueue_34 : decode b_Model_layQueue 34 = .ok (.invokevirtual 261, 3) := by decide +kernel
theorem d_Model_layQueue_37 : decode b_Model_layQueue 37 = .ok (.aload_n 0, 1) := by decide +kernel
theorem d_Model_layQueue_38 : decode b_Model_layQueue 38 = .ok (.iload_n 1, 1) := by decide +kernel
theorem d_Model_layQueue_39 : decode b_Model_layQueue 39 = .ok (.iload_n 2, 1) := by decide +kernel
theorem d_Model_layQueue_40 : decode b_Model_layQueue 40 = .ok (.bipush 7, 2) := by decide +kernel
theorem d_Model_layQueue_42 : decode b_Model_layQueue 42 = .ok (.invokevirtual 209, 3) := by decide +kernel
theorem d_Model_layQueue_45 : decode b_Model_layQueue 45 = .ok (.iconst 1, 1) := by decide +kernel
theorem d_Model_layQueue_46 : decode b_Model_layQueue 46 = .ok (.if_icmp .ne 13, 3) := by decide +kernel
theorem d_Model_layQueue_49 : decode b_Model_layQueue 49 = .ok (.aload_n 0, 1) := by decide +kernel
theorem d_Model_layQueue_50 : decode b_Model_layQueue 50 = .ok (.iload_n 1, 1) := by decide +kernel
theorem d_Model_layQueue_51 : decode b_Model_layQueue 51 = .ok (.iconst 2, 1) := by decide +kernel
theorem d_Model_layQueue_52 : decode b_Model_layQueue 52 = .ok (.iload_n 2, 1) := by decide +kernel
theorem d_Model_layQueue_53 : decode b_Model_layQueue 53 = .ok (.imul, 1) := by decide +kernel
theorem d_Model_layQueue_54 : decode b_Model_layQueue 54 = .ok (.iconst 1, 1) := by decide +kernel
theorem d_Model_layQueue_55 : decode b_Model_layQueue 55 = .ok (.iadd, 1) := by decide +kernel
theorem d_Model_layQueue_56 : decode b_Model_layQueue 56 = .ok (.invokevirtual 261, 3) := by decide +kernel
theorem d_Model_layQueue_59 : decode b_Model_layQueue 59 = .ok (.iinc 2 1, 3) := by decide +kernel
theorem d_Model_layQueue_62 : decode b_Model_layQueue 62 = .ok (.goto (-55), 3) := by decide +kernel
theorem d_Model_layQueue_65 : decode b_Model_layQueue 65 = .ok (.return_, 1) := by decide +kernel
def L_Model_layQueue : Nat → Nat → Int32 → Int32 → zSt → Option (zSt)
  | 0, _, _, _, _ => none
  | n + 1, 0, x1, x2, σ => if (σ.1 4 81 7) ≤ x2 then some σ else ((F_Model_pair x1 x2 (4 : Int32) σ).bind fun r2 => if r2 = (1 : Int32) then ((F_Model_enqueue x1 ((2 : Int32) * x2) σ).bind fun σ4 => L_Model_layQueue n 1 x1 x2 σ4) else L_Model_layQueue n 1 x1 x2 σ)
  | n + 1, 1, x1, x2, σ => (F_Model_pair x1 x2 (7 : Int32) σ).bind fun r8 => if r8 = (1 : Int32) then ((F_Model_enqueue x1 (((2 : Int32) * x2) + (1 : Int32)) σ).bind fun σ10 => L_Model_layQueue n 0 x1 (x2 + (1 : Int32)) σ10) else L_Model_layQueue n 0 x1 (x2 + (1 : Int32)) σ
  | _ + 1, _, _, _, _ => none
theorem e_Model_layQueue_0 (n : Nat) (x1 : Int32) (x2 : Int32) (σ : zSt) : L_Model_layQueue (n + 1) 0 x1 x2 σ = (if (σ.1 4 81 7) ≤ x2 then some σ else ((F_Model_pair x1 x2 (4 : Int32) σ).bind fun r2 => if r2 = (1 : Int32) then ((F_Model_enqueue x1 ((2 : Int32) * x2) σ).bind fun σ4 => L_Model_layQueue n 1 x1 x2 σ4) else L_Model_layQueue n 1 x1 x2 σ)) := rfl
theorem e_Model_layQueue_1 (n : Nat) (x1 : Int32) (x2 : Int32) (σ : zSt) : L_Model_layQueue (n + 1) 1 x1 x2 σ = ((F_Model_pair x1 x2 (7 : Int32) σ).bind fun r8 => if r8 = (1 : Int32) then ((F_Model_enqueue x1 (((2 : Int32) * x2) + (1 : Int32)) σ).bind fun σ10 => L_Model_layQueue n 0 x1 (x2 + (1 : Int32)) σ10) else L_Model_layQueue n 0 x1 (x2 + (1 : Int32)) σ) := rfl
set_option maxHeartbeats 4000000 in
set_option maxRecDepth 100000 in
theorem w_Model_layQueue {l : Launch} {G : zLA} {p : Program} {e : Env} {s : State} {m : MethodId} {args : Array Value} {below : List Frame} {meth : Method} {c : Code} (C : zCx G p s m args meth c "VillageWavesModel" b_Model_layQueue 3 none) (hm : zml G) {σ' : zSt} : ∀ n : Nat, (∀ (x1 : Int32) (x2 : Int32) (σ : zSt), L_Model_layQueue n 0 x1 x2 σ = some σ' → zWV G p l e rm_Model_layQueue s m args below meth c 3 0 0 (zQ G below args s rm_Model_layQueue none σ') 7 [(0, .ref (zad G 4 80)), (1, .int x1), (2, .int x2)] [] σ) ∧ (∀ (x1 : Int32) (x2 : Int32) (σ : zSt), L_Model_layQueue n 1 x1 x2 σ = some σ' → zWV G p l e rm_Model_layQueue s m args below meth c 3 0 0 (zQ G below args s rm_Model_layQueue none σ') 37 [(0, .ref (zad G 4 80)), (1, .int x1), (2, .int x2)] [] σ) := by
  intro n
  induction n with
  | zero => exact ⟨fun _ _ _ hf => (by cases hf), fun _ _ _ hf => (by cases hf)⟩
  | succ n ih =>
    refine ⟨?_, ?_⟩
    · intro x1 x2 σ hf
      rw [e_Model_layQueue_0] at hf
      refine z_iload_n C d_Model_layQueue_7 2 rfl rfl ?_
      refine z_aload_n C d_Model_layQueue_8 0 rfl rfl ?_
      refine gf_Model_7 C (zm4 hm 80 rfl) rfl rfl d_Model_layQueue_9 ?_
      refine z_bipush C d_Model_layQueue_12 zkb_7 ?_
      refine z_iald C (zm4 hm 81 rfl) rfl (inb_in (by decide)) zc_7 d_Model_layQueue_14 ?_
      refine z_icmp_ge (tgt := 65) C d_Model_layQueue_15 rfl (fun h6 => ?_) (fun h6 => ?_)
      · have hf := iff_t hf h6
        cases hf
        exact z_vret C rfl (Nat.le_of_ble_eq_true rfl) (Nat.le_of_ble_eq_true rfl) d_Model_layQueue_65
      · have hf := iff_f hf h6
        refine z_aload_n C d_Model_layQueue_18 0 rfl rfl ?_
        refine z_iload_n C d_Model_layQueue_19 1 rfl rfl ?_
        refine z_iload_n C d_Model_layQueue_20 2 rfl rfl ?_
        refine z_iconst C d_Model_layQueue_21 zki_4 ?_
        obtain ⟨r2, h1, hf⟩ := bd_s hf
        refine z_cVi C kl_Model_209 rfl (c_Model_pair hm h1) (zm4 hm 80 rfl) rfl rfl rfl (Nat.le_of_ble_eq_true rfl) ⟨(Nat.le_of_ble_eq_true rfl), (Nat.le_of_ble_eq_true rfl)⟩ ⟨(Nat.le_of_ble_eq_true rfl), (Nat.le_of_ble_eq_true rfl)⟩ d_Model_layQueue_22 ?_
        refine z_iconst C d_Model_layQueue_25 zki_1 ?_
        refine z_icmp_ne (tgt := 37) C d_Model_layQueue_26 rfl (fun h5 => ?_) (fun h5 => ?_)
        · have hf := iff_f hf h5
          exact z_sub [0, 1, 2] rfl (ih.2 _ _ _ hf)
        · have hf := iff_t hf h5
          refine z_aload_n C d_Model_layQueue_29 0 rfl rfl ?_
          refine z_iload_n C d_Model_layQueue_30 1 rfl rfl ?_
          refine z_iconst C d_Model_layQueue_31 zki_2 ?_
          refine z_iload_n C d_Model_layQueue_32 2 rfl rfl ?_
          refine z_imul C d_Model_layQueue_33 ?_
          obtain ⟨σ4, h3, hf⟩ := bd_s hf
          refine z_cVv C kl_Model_261 rfl (c_Model_enqueue hm h3) (zm4 hm 80 rfl) rfl rfl rfl (Nat.le_of_ble_eq_true rfl) ⟨(Nat.le_of_ble_eq_true rfl), (Nat.le_of_ble_eq_true rfl)⟩ ⟨(Nat.le_of_ble_eq_true rfl), (Nat.le_of_ble_eq_true rfl)⟩ d_Model_layQueue_34 ?_
          exact z_sub [0, 1, 2] rfl (ih.2 _ _ _ hf)
    · intro x1 x2 σ hf
      rw [e_Model_layQueue_1] at hf
      refine z_aload_n C d_Model_layQueue_37 0 rfl rfl ?_
      refine z_iload_n C d_Model_layQueue_38 1 rfl rfl ?_
      refine z_iload_n C d_Model_layQueue_39 2 rfl rfl ?_
      refine z_bipush C d_Model_layQueue_40 zkb_7 ?_
      obtain ⟨r8, h7, hf⟩ := bd_s hf
      refine z_cVi C kl_Model_209 rfl (c_Model_pair hm h7) (zm4 hm 80 rfl) rfl rfl rfl (Nat.le_of_ble_eq_true rfl) ⟨(Nat.le_of_ble_eq_true rfl), (Nat.le_of_ble_eq_true rfl)⟩ ⟨(Nat.le_of_ble_eq_true rfl), (Nat.le_of_ble_eq_true rfl)⟩ d_Model_layQueue_42 ?_
      refine z_iconst C d_Model_layQueue_45 zki_1 ?_
      refine z_icmp_ne (tgt := 59) C d_Model_layQueue_46 rfl (fun h11 => ?_) (fun h11 => ?_)
      · have hf := iff_f hf h11
        refine z_iinc C d_Model_layQueue_59 2 rfl zki_1 (by decide) ?_
        refine z_goto (tgt := 7) C d_Model_layQueue_62 rfl ?_
        exact z_sub [1, 2, 0] rfl (ih.1 _ _ _ hf)
      · have hf := iff_t hf h11
        refine z_aload_n C d_Model_layQueue_49 0 rfl rfl ?_
        refine z_iload_n C d_Model_layQueue_50 1 rfl rfl ?_
        refine z_iconst C d_Model_layQueue_51 zki_2 ?_
        refine z_iload_n C d_Model_layQueue_52 2 rfl rfl ?_
        refine z_imul C d_Model_layQueue_53 ?_
        refine z_iconst C d_Model_layQueue_54 zki_1 ?_
        refine z_iadd C d_Model_layQueue_55 ?_
        obtain ⟨σ10, h9, hf⟩ := bd_s hf
        refine z_cVv C kl_Model_261 rfl (c_Model_enqueue hm h9) (zm4 hm 80 rfl) rfl rfl rfl (Nat.le_of_ble_eq_true rfl) ⟨(Nat.le_of_ble_eq_true rfl), (Nat.le_of_ble_eq_true rfl)⟩ ⟨(Nat.le_of_ble_eq_true rfl), (Nat.le_of_ble_eq_true rfl)⟩ d_Model_layQueue_56 ?_
        refine z_iinc C d_Model_layQueue_59 2 rfl zki_1 (by decide) ?_
        refine z_goto (tgt := 7) C d_Model_layQueue_62 rfl ?_
        exact z_sub [1, 2, 0] rfl (ih.1 _ _ _ hf)
def F_Model_layQueue (a0 : Int32) (σ : zSt) : Option (zSt) :=
  L_Model_layQueue zK 0 a0 (0 : Int32) (zst σ 4 80 20 (0 : Int32))
set_option maxHeartbeats 4000000 in
set_option maxRecDepth 100000 in
theorem c_Model_layQueue {l : Launch} {G : zLA} (hm : zml G) {a0 : Int32} {σ : zSt} {σ' : zSt} (hf : F_Model_layQueue a0 σ = some σ') : zM l G y_Model_layQueue (zws y_Model_layQueue b_Model_layQueue 3 none) rm_Model_layQueue [.ref (zad G 4 80), .int a0] σ none σ' := by
  refine z_ofM (own := "VillageWavesModel") (lv := [(0, .ref (zad G 4 80)), (1, .int a0)]) (by decide +kernel) rfl rfl (Nat.le_of_ble_eq_true rfl) (fun p e s m args below meth c C => ?_)
  rw [F_Model_layQueue] at hf
  refine z_aload_n C d_Model_layQueue_0 0 rfl rfl ?_
  refine z_iconst C d_Model_layQueue_1 zki_0 ?_
  refine pf_Model_255 C (zm4 hm 80 rfl) rfl (Nat.le_of_ble_eq_true rfl) rfl d_Model_layQueue_2 ?_
  refine z_iconst C d_Model_layQueue_5 zki_0 ?_
  refine z_istore_n C d_Model_layQueue_6 rfl (by decide) ?_
  exact z_sub [1, 2, 0] rfl ((w_Model_layQueue C hm zK).1 _ _ _ hf)
abbrev rm_Model_canSend : Room := { frames := 4, cells := 0, slots := 0, locals := 92 }
theorem d_Model_canSend_0 : decode b_Model_canSend 0 = .ok (.aload_n 0, 1) := by decide +kernel
theorem d_Model_canSend_1 : decode b_Model_canSend 1 = .ok (.iload_n 2, 1) := by decide +kernel
theorem d_Model_canSend_2 : decode b_Model_canSend 2 = .ok (.invokevirtual 249, 3) := by decide +kernel
theorem d_Model_canSend_5 : decode b_Model_canSend 5 = .ok (.ifCond .eq 20, 3) := by decide +kernel
theorem d_Model_canSend_8 : decode b_Model_canSend 8 = .ok (.aload_n 0, 1) := by decide +kernel
theorem d_Model_canSend_9 : decode b_Model_canSend 9 = .ok (.iload_n 1, 1) := by decide +kernel
theorem d_Model_canSend_10 : decode b_Model_canSend 10 = .ok (.iload_n 2, 1) := by decide +kernel
theorem d_Model_canSend_11 : decode b_Model_canSend 11 = .ok (.iconst 2, 1) := by decide +kernel
theorem d_Model_canSend_12 : decode b_Model_canSend 12 = .ok (.idiv, 1) := by decide +kernel
theorem d_Model_canSend_13 : decode b_Model_canSend 13 = .ok (.invokevirtual 264, 3) := by decide +kernel
theorem d_Model_canSend_16 : decode b_Model_canSend 16 = .ok (.aload_n 0, 1) := by decide +kernel
theorem d_Model_canSend_17 : decode b_Model_canSend 17 = .ok (.iload_n 1, 1) := by decide +kernel
theorem d_Model_canSend_18 : decode b_Model_canSend 18 = .ok (.invokevirtual 243, 3) := by decide +kernel
theorem d_Model_canSend_21 : decode b_Model_canSend 21 = .ok (.iand, 1) := by decide +kernel
theorem d_Model_canSend_22 : decode b_Model_canSend 22 = .ok (.ifCond .eq 7, 3) := by decide +kernel
theorem d_Model_canSend_25 : decode b_Model_canSend 25 = .ok (.iconst 1, 1) := by decide +kernel
theorem d_Model_canSend_26 : decode b_Model_canSend 26 = .ok (.goto 4, 3) := by decide +kernel
theorem d_Model_canSend_29 : decode b_Model_canSend 29 = .ok (.iconst 0, 1) := by decide +kernel
theorem d_Model_canSend_30 : decode b_Model_canSend 30 = .ok (.ireturn, 1) := by decide +kernel
def F_Model_canSend (a0 : Int32) (a1 : Int32) (σ : zSt) : Option (Int32) :=
  (F_Model_isCorrection a1 σ).bind fun r2 => if r2 = 0 then some (1 : Int32) else ((F_Model_owedBy a0 (a1 / (2 : Int32)) σ).bind fun r4 => (F_Model_housesInRange a0 σ).bind fun r6 => if (r4 &&& r6) = 0 then some (0 : Int32) else some (1 : Int32))
set_option maxHeartbeats 4000000 in
set_option maxRecDepth 100000 in
theorem c_Model_canSend {l : Launch} {G : zLA} (hm : zml G) {a0 : Int32} {a1 : Int32} {σ : zSt} {r : Int32} (hf : F_Model_canSend a0 a1 σ = some r) : zM l G y_Model_canSend (zws y_Model_canSend b_Model_canSend 3 (some .boolean)) rm_Model_canSend [.ref (zad G 4 80), .int a0, .int a1] σ (some (.int r)) σ := by
  refine z_ofM (own := "VillageWavesModel") (lv := [(0, .ref (zad G 4 80)), (1, .int a0), (2, .int a1)]) (by decide +kernel) rfl rfl (Nat.le_of_ble_eq_true rfl) (fun p e s m args below meth c C => ?_)
  rw [F_Model_canSend] at hf
  refine z_aload_n C d_Model_canSend_0 0 rfl rfl ?_
  refine z_iload_n C d_Model_canSend_1 2 rfl rfl ?_
  obtain ⟨r2, h1, hf⟩ := bd_s hf
  refine z_cVi C kl_Model_249 rfl (c_Model_isCorrection hm h1) (zm4 hm 80 rfl) rfl rfl rfl (Nat.le_of_ble_eq_true rfl) ⟨(Nat.le_of_ble_eq_true rfl), (Nat.le_of_ble_eq_true rfl)⟩ ⟨(Nat.le_of_ble_eq_true rfl), (Nat.le_of_ble_eq_true rfl)⟩ d_Model_canSend_2 ?_
  refine z_if_eq (tgt := 25) C d_Model_canSend_5 rfl (fun h8 => ?_) (fun h8 => ?_)
  · have hf := iff_t hf h8
    refine z_iconst C d_Model_canSend_25 zki_1 ?_
    refine z_goto (tgt := 30) C d_Model_canSend_26 rfl ?_
    cases hf
    exact z_zret C rfl rfl (Nat.le_of_ble_eq_true rfl) (Nat.le_of_ble_eq_true rfl) d_Model_canSend_30
  · have hf := iff_f hf h8
    refine z_aload_n C d_Model_canSend_8 0 rfl rfl ?_
    refine z_iload_n C d_Model_canSend_9 1 rfl rfl ?_
    refine z_iload_n C d_Model_canSend_10 2 rfl rfl ?_
    refine z_iconst C d_Model_canSend_11 zki_2 ?_
    refine z_idiv C d_Model_canSend_12 (by decide) ?_
    obtain ⟨r4, h3, hf⟩ := bd_s hf
    refine z_cVi C kl_Model_264 rfl (c_Model_owedBy hm h3) (zm4 hm 80 rfl) rfl rfl rfl (Nat.le_of_ble_eq_true rfl) ⟨(Nat.le_of_ble_eq_true rfl), (Nat.le_of_ble_eq_true rfl)⟩ ⟨(Nat.le_of_ble_eq_true rfl), (Nat.le_of_ble_eq_true rfl)⟩ d_Model_canSend_13 ?_
    refine z_aload_n C d_Model_canSend_16 0 rfl rfl ?_
    refine z_iload_n C d_Model_canSend_17 1 rfl rfl ?_
    obtain ⟨r6, h5, hf⟩ := bd_s hf
    refine z_cVi C kl_Model_243 rfl (c_Model_housesInRange hm h5) (zm4 hm 80 rfl) rfl rfl rfl (Nat.le_of_ble_eq_true rfl) ⟨(Nat.le_of_ble_eq_true rfl), (Nat.le_of_ble_eq_true rfl)⟩ ⟨(Nat.le_of_ble_eq_true rfl), (Nat.le_of_ble_eq_true rfl)⟩ d_Model_canSend_18 ?_
    refine z_iand C d_Model_canSend_21 ?_
    refine z_if_eq (tgt := 29) C d_Model_canSend_22 rfl (fun h7 => ?_) (fun h7 => ?_)
    · have hf := iff_t hf h7
      refine z_iconst C d_Model_canSend_29 zki_0 ?_
      cases hf
      exact z_zret C rfl rfl (Nat.le_of_ble_eq_true rfl) (Nat.le_of_ble_eq_true rfl) d_Model_canSend_30
    · have hf := iff_f hf h7
      refine z_iconst C d_Model_canSend_25 zki_1 ?_
      refine z_goto (tgt := 30) C d_Model_canSend_26 rfl ?_
      cases hf
      exact z_zret C rfl rfl (Nat.le_of_ble_eq_true rfl) (Nat.le_of_ble_eq_true rfl) d_Model_canSend_30
abbrev rm_Model_firstToSend : Room := { frames := 6, cells := 0, slots := 0, locals := 135 }
theorem d_Model_firstToSend_0 : decode b_Model_firstToSend 0 = .ok (.aload_n 0, 1) := by decide +kernel
theorem d_Model_firstToSend_1 : decode b_Model_firstToSend 1 = .ok (.iload_n 1, 1) := by decide +kernel
theorem d_Model_firstToSend_2 : decode b_Model_firstToSend 2 = .ok (.invokevirtual 267, 3) := by decide +kernel
theorem d_Model_firstToSend_5 : decode b_Model_firstToSend 5 = .ok (.iconst 0, 1) := by decide +kernel
theorem d_Model_firstToSend_6 : decode b_Model_firstToSend 6 = .ok (.istore_n 2, 1) := by decide +kernel
theorem d_Model_firstToSend_7 : decode b_Model_firstToSend 7 = .ok (.iload_n 2, 1) := by decide +kernel
theorem d_Model_firstToSend_8 : decode b_Model_firstToSend 8 = .ok (.aload_n 0, 1) := by decide +kernel
theorem d_Model_firstToSend_9 : decode b_Model_firstToSend 9 = .ok (.getfield 255, 3) := by decide +kernel
theorem d_Model_firstToSend_12 : decode b_Model_firstToSend 12 = .ok (.if_icmp .ge 30, 3) := by decide +kernel
theorem d_Model_firstToSend_15 : decode b_Model_firstToSend 15 = .ok (.aload_n 0, 1) := by decide +kernel
theorem d_Model_firstToSend_16 : decode b_Model_firstToSend 16 = .ok (.iload_n 1, 1) := by decide +kernel
theorem d_Model_firstToSend_17 : decode b_Model_firstToSend 17 = .ok (.aload_n 0, 1) := by decide +kernel
theorem d_Model_firstToSend_18 : decode b_Model_firstToSend 18 = .ok (.getfield 42, 3) := by decide +kernel
theorem d_Model_firstToSend_21 : decode b_Model_firstToSend 21 = .ok (.iload_n 2, 1) := by decide +kernel
theorem d_Model_firstToSend_22 : decode b_Model_firstToSend 22 = .ok (.iaload, 1) := by decide +kernel
theorem d_Model_firstToSend_23 : decode b_Model_firstToSend 23 = .ok (.invokevirtual 271, 3) := by decide +kernel
theorem d_Model_firstToSend_26 : decode b_Model_firstToSend 26 = .ok (.ifCond .eq 10, 3) := by decide +kernel
theorem d_Model_firstToSend_29 : decode b_Model_firstToSend 29 = .ok (.aload_n 0, 1) := by decide +kernel
theorem d_Model_firstToSend_30 : decode b_Model_firstToSend 30 = .ok (.getfield 42, 3) := by decide +kernel
theorem d_Model_firstToSend_33 : decode b_Model_firstToSend 33 = .ok (.iload_n 2, 1) := by decide +kernel
theorem d_Model_firstToSend_34 : decode b_Model_firstToSend 34 = .ok (.iaload, 1) := by decide +kernel
theorem d_Model_firstToSend_35 : decode b_Model_firstToSend 35 = .ok (.ireturn, 1) := by decide +kernel
theorem d_Model_firstToSend_36 : decode b_Model_firstToSend 36 = .ok (.iinc 2 1, 3) := by decide +kernel
theorem d_Model_firstToSend_39 : decode b_Model_firstToSend 39 = .ok (.goto (-32), 3) := by decide +kernel
theorem d_Model_firstToSend_42 : decode b_Model_firstToSend 42 = .ok (.iconst (-1), 1) := by decide +kernel
theorem d_Model_firstToSend_43 : decode b_Model_firstToSend 43 = .ok (.ireturn, 1) := by decide +kernel
def L_Model_firstToSend : Nat → Nat → Int32 → Int32 → zSt → Option (Int32 × zSt)
  | 0, _, _, _, _ => none
  | n + 1, 0, x1, x2, σ => if (σ.1 4 80 20) ≤ x2 then some ((-1 : Int32), σ) else (if inb x2 40 = true then ((F_Model_canSend x1 (σ.1 4 90 x2.toNatClampNeg) σ).bind fun r4 => if r4 = 0 then L_Model_firstToSend n 0 x1 (x2 + (1 : Int32)) σ else (if inb x2 40 = true then some ((σ.1 4 90 x2.toNatClampNeg), σ) else none)) else none)
  | _ + 1, _, _, _, _ => none
theorem e_Model_firstToSend_0 (n : Nat) (x1 : Int32) (x2 : Int32) (σ : zSt) : L_Model_firstToSend (n + 1) 0 x1 x2 σ = (if (σ.1 4 80 20) ≤ x2 then some ((-1 : Int32), σ) else (if inb x2 40 = true then ((F_Model_canSend x1 (σ.1 4 90 x2.toNatClampNeg) σ).bind fun r4 => if r4 = 0 then L_Model_firstToSend n 0 x1 (x2 + (1 : Int32)) σ else (if inb x2 40 = true then some ((σ.1 4 90 x2.toNatClampNeg), σ) else none)) else none)) := rfl
set_option maxHeartbeats 4000000 in
set_option maxRecDepth 100000 in
theorem w_Model_firstToSend {l : Launch} {G : zLA} {p : Program} {e : Env} {s : State} {m : MethodId} {args : Array Value} {below : List Frame} {meth : Method} {c : Code} (C : zCx G p s m args meth c "VillageWavesModel" b_Model_firstToSend 3 (some .int)) (hm : zml G) {r : Int32} {σ' : zSt} : ∀ n : Nat, (∀ (x1 : Int32) (x2 : Int32) (σ : zSt), L_Model_firstToSend n 0 x1 x2 σ = some (r, σ') → zWV G p l e rm_Model_firstToSend s m args below meth c 3 0 0 (zQ G below args s rm_Model_firstToSend (some (.int r)) σ') 7 [(0, .ref (zad G 4 80)), (1, .int x1), (2, .int x2)] [] σ) := by
  intro n
  induction n with
  | zero => exact fun _ _ _ hf => (by cases hf)
  | succ n ih =>
    refine ?_
    · intro x1 x2 σ hf
      rw [e_Model_firstToSend_0] at hf
      refine z_iload_n C d_Model_firstToSend_7 2 rfl rfl ?_
      refine z_aload_n C d_Model_firstToSend_8 0 rfl rfl ?_
      refine gf_Model_255 C (zm4 hm 80 rfl) rfl rfl d_Model_firstToSend_9 ?_
      refine z_icmp_ge (tgt := 42) C d_Model_firstToSend_12 rfl (fun h8 => ?_) (fun h8 => ?_)
      · have hf := iff_t hf h8
        refine z_iconst C d_Model_firstToSend_42 zki_m1 ?_
        cases hf
        exact z_iret C rfl (Nat.le_of_ble_eq_true rfl) (Nat.le_of_ble_eq_true rfl) d_Model_firstToSend_43
      · have hf := iff_f hf h8
        refine z_aload_n C d_Model_firstToSend_15 0 rfl rfl ?_
        refine z_iload_n C d_Model_firstToSend_16 1 rfl rfl ?_
        refine z_aload_n C d_Model_firstToSend_17 0 rfl rfl ?_
        refine gf_Model_42 C (zm4 hm 80 rfl) rfl rfl d_Model_firstToSend_18 ?_
        refine z_iload_n C d_Model_firstToSend_21 2 rfl rfl ?_
        obtain ⟨h7, hf⟩ := iff_g hf
        refine z_iald C (zm4 hm 90 rfl) rfl (inb_in h7) rfl d_Model_firstToSend_22 ?_
        obtain ⟨r4, h3, hf⟩ := bd_s hf
        refine z_cVi C kl_Model_271 rfl (c_Model_canSend hm h3) (zm4 hm 80 rfl) rfl rfl rfl (Nat.le_of_ble_eq_true rfl) ⟨(Nat.le_of_ble_eq_true rfl), (Nat.le_of_ble_eq_true rfl)⟩ ⟨(Nat.le_of_ble_eq_true rfl), (Nat.le_of_ble_eq_true rfl)⟩ d_Model_firstToSend_23 ?_
        refine z_if_eq (tgt := 36) C d_Model_firstToSend_26 rfl (fun h6 => ?_) (fun h6 => ?_)
        · have hf := iff_t hf h6
          refine z_iinc C d_Model_firstToSend_36 2 rfl zki_1 (by decide) ?_
          refine z_goto (tgt := 7) C d_Model_firstToSend_39 rfl ?_
          exact z_sub [1, 2, 0] rfl (ih _ _ _ hf)
        · have hf := iff_f hf h6
          refine z_aload_n C d_Model_firstToSend_29 0 rfl rfl ?_
          refine gf_Model_42 C (zm4 hm 80 rfl) rfl rfl d_Model_firstToSend_30 ?_
          refine z_iload_n C d_Model_firstToSend_33 2 rfl rfl ?_
          obtain ⟨h5, hf⟩ := iff_g hf
          refine z_iald C (zm4 hm 90 rfl) rfl (inb_in h5) rfl d_Model_firstToSend_34 ?_
          cases hf
          exact z_iret C rfl (Nat.le_of_ble_eq_true rfl) (Nat.le_of_ble_eq_true rfl) d_Model_firstToSend_35
def F_Model_firstToSend (a0 : Int32) (σ : zSt) : Option (Int32 × zSt) :=
  (F_Model_layQueue a0 σ).bind fun σ2 => L_Model_firstToSend zK 0 a0 (0 : Int32) σ2
set_option maxHeartbeats 4000000 in
set_option maxRecDepth 100000 in
theorem c_Model_firstToSend {l : Launch} {G : zLA} (hm : zml G) {a0 : Int32} {σ : zSt} {r : Int32} {σ' : zSt} (hf : F_Model_firstToSend a0 σ = some (r, σ')) : zM l G y_Model_firstToSend (zws y_Model_firstToSend b_Model_firstToSend 3 (some .int)) rm_Model_firstToSend [.ref (zad G 4 80), .int a0] σ (some (.int r)) σ' := by
  refine z_ofM (own := "VillageWavesModel") (lv := [(0, .ref (zad G 4 80)), (1, .int a0)]) (by decide +kernel) rfl rfl (Nat.le_of_ble_eq_true rfl) (fun p e s m args below meth c C => ?_)
  rw [F_Model_firstToSend] at hf
  refine z_aload_n C d_Model_firstToSend_0 0 rfl rfl ?_
  refine z_iload_n C d_Model_firstToSend_1 1 rfl rfl ?_
  obtain ⟨σ2, h1, hf⟩ := bd_s hf
  refine z_cVv C kl_Model_267 rfl (c_Model_layQueue hm h1) (zm4 hm 80 rfl) rfl rfl rfl (Nat.le_of_ble_eq_true rfl) ⟨(Nat.le_of_ble_eq_true rfl), (Nat.le_of_ble_eq_true rfl)⟩ ⟨(Nat.le_of_ble_eq_true rfl), (Nat.le_of_ble_eq_true rfl)⟩ d_Model_firstToSend_2 ?_
  refine z_iconst C d_Model_firstToSend_5 zki_0 ?_
  refine z_istore_n C d_Model_firstToSend_6 rfl (by decide) ?_
  exact z_sub [1, 2, 0] rfl ((w_Model_firstToSend C hm zK) _ _ _ hf)
abbrev rm_Model_entry : Room := { frames := 6, cells := 0, slots := 0, locals := 135 }
theorem d_Model_entry_0 : decode b_Model_entry 0 = .ok (.aload_n 0, 1) := by decide +kernel
theorem d_Model_entry_1 : decode b_Model_entry 1 = .ok (.iconst 0, 1) := by decide +kernel
theorem d_Model_entry_2 : decode b_Model_entry 2 = .ok (.putfield 48, 3) := by decide +kernel
theorem d_Model_entry_5 : decode b_Model_entry 5 = .ok (.aload_n 0, 1) := by decide +kernel
theorem d_Model_entry_6 : decode b_Model_entry 6 = .ok (.iload_n 1, 1) := by decide +kernel
theorem d_Model_entry_7 : decode b_Model_entry 7 = .ok (.invokevirtual 188, 3) := by decide +kernel
theorem d_Model_entry_10 : decode b_Model_entry 10 = .ok (.ifCond .eq 18, 3) := by decide +kernel
theorem d_Model_entry_13 : decode b_Model_entry 13 = .ok (.iload_n 2, 1) := by decide +kernel
theorem d_Model_entry_14 : decode b_Model_entry 14 = .ok (.iconst 0, 1) := by decide +kernel
theorem d_Model_entry_15 : decode b_Model_entry 15 = .ok (.aload_n 0, 1) := by decide +kernel
theorem d_Model_entry_16 : decode b_Model_entry 16 = .ok (.iload_n 1, 1) := by decide +kernel
theorem d_Model_entry_17 : decode b_Model_entry 17 = .ok (.invokevirtual 213, 3) := by decide +kernel
theorem d_Model_entry_20 : decode b_Model_entry 20 = .ok (.iconst 1, 1) := by decide +kernel
theorem d_Model_entry_21 : decode b_Model_entry 21 = .ok (.isub, 1) := by decide +kernel
theorem d_Model_entry_22 : decode b_Model_entry 22 = .ok (.invokestatic 51, 3) := by decide +kernel
theorem d_Model_entry_25 : decode b_Model_entry 25 = .ok (.ifCond .ne 9, 3) := by decide +kernel
theorem d_Model_entry_28 : decode b_Model_entry 28 = .ok (.aload_n 0, 1) := by decide +kernel
theorem d_Model_entry_29 : decode b_Model_entry 29 = .ok (.iconst 1, 1) := by decide +kernel
theorem d_Model_entry_30 : decode b_Model_entry 30 = .ok (.invokevirtual 62, 3) := by decide +kernel
theorem d_Model_entry_33 : decode b_Model_entry 33 = .ok (.ireturn, 1) := by decide +kernel
theorem d_Model_entry_34 : decode b_Model_entry 34 = .ok (.aload_n 0, 1) := by decide +kernel
theorem d_Model_entry_35 : decode b_Model_entry 35 = .ok (.iload_n 1, 1) := by decide +kernel
theorem d_Model_entry_36 : decode b_Model_entry 36 = .ok (.invokevirtual 267, 3) := by decide +kernel
theorem d_Model_entry_39 : decode b_Model_entry 39 = .ok (.aload_n 0, 1) := by decide +kernel
theorem d_Model_entry_40 : decode b_Model_entry 40 = .ok (.getfield 42, 3) := by decide +kernel
theorem d_Model_entry_43 : decode b_Model_entry 43 = .ok (.iload_n 2, 1) := by decide +kernel
theorem d_Model_entry_44 : decode b_Model_entry 44 = .ok (.iaload, 1) := by decide +kernel
theorem d_Model_entry_45 : decode b_Model_entry 45 = .ok (.istore 4, 2) := by decide +kernel
theorem d_Model_entry_47 : decode b_Model_entry 47 = .ok (.iload_n 3, 1) := by decide +kernel
theorem d_Model_entry_48 : decode b_Model_entry 48 = .ok (.tableswitch 105 0 4 #[36, 51, 56, 64, 89], 36) := by decide +kernel
theorem d_Model_entry_84 : decode b_Model_entry 84 = .ok (.aload_n 0, 1) := by decide +kernel
theorem d_Model_entry_85 : decode b_Model_entry 85 = .ok (.iload 4, 2) := by decide +kernel
theorem d_Model_entry_87 : decode b_Model_entry 87 = .ok (.invokevirtual 249, 3) := by decide +kernel
theorem d_Model_entry_90 : decode b_Model_entry 90 = .ok (.ifCond .eq 7, 3) := by decide +kernel
theorem d_Model_entry_93 : decode b_Model_entry 93 = .ok (.iconst 1, 1) := by decide +kernel
theorem d_Model_entry_94 : decode b_Model_entry 94 = .ok (.goto 4, 3) := by decide +kernel
theorem d_Model_entry_97 : decode b_Model_entry 97 = .ok (.iconst 0, 1) := by decide +kernel
theorem d_Model_entry_98 : decode b_Model_entry 98 = .ok (.ireturn, 1) := by decide +kernel
theorem d_Model_entry_99 : decode b_Model_entry 99 = .ok (.iload 4, 2) := by decide +kernel
theorem d_Model_entry_101 : decode b_Model_entry 101 = .ok (.iconst 2, 1) := by decide +kernel
theorem d_Model_entry_102 : decode b_Model_entry 102 = .ok (.idiv, 1) := by decide +kernel
theorem d_Model_entry_103 : decode b_Model_entry 103 = .ok (.ireturn, 1) := by decide +kernel
theorem d_Model_entry_104 : decode b_Model_entry 104 = .ok (.aload_n 0, 1) := by decide +kernel
theorem d_Model_entry_105 : decode b_Model_entry 105 = .ok (.iload_n 1, 1) := by decide +kernel
theorem d_Model_entry_106 : decode b_Model_entry 106 = .ok (.iload 4, 2) := by decide +kernel
theorem d_Model_entry_108 : decode b_Model_entry 108 = .ok (.invokevirtual 252, 3) := by decide +kernel
theorem d_Model_entry_111 : decode b_Model_entry 111 = .ok (.ireturn, 1) := by decide +kernel
theorem d_Model_entry_112 : decode b_Model_entry 112 = .ok (.aload_n 0, 1) := by decide +kernel
theorem d_Model_entry_113 : decode b_Model_entry 113 = .ok (.iload 4, 2) := by decide +kernel
theorem d_Model_entry_115 : decode b_Model_entry 115 = .ok (.invokevirtual 249, 3) := by decide +kernel
theorem d_Model_entry_118 : decode b_Model_entry 118 = .ok (.ifCond .eq 7, 3) := by decide +kernel
theorem d_Model_entry_121 : decode b_Model_entry 121 = .ok (.iconst (-1), 1) := by decide +kernel
theorem d_Model_entry_122 : decode b_Model_entry 122 = .ok (.goto 14, 3) := by decide +kernel
theorem d_Model_entry_125 : decode b_Model_entry 125 = .ok (.aload_n 0, 1) := by decide +kernel
theorem d_Model_entry_126 : decode b_Model_entry 126 = .ok (.iload_n 1, 1) := by decide +kernel
theorem d_Model_entry_127 : decode b_Model_entry 127 = .ok (.iload 4, 2) := by decide +kernel
theorem d_Model_entry_129 : decode b_Model_entry 129 = .ok (.iconst 2, 1) := by decide +kernel
theorem d_Model_entry_130 : decode b_Model_entry 130 = .ok (.idiv, 1) := by decide +kernel
theorem d_Model_entry_131 : decode b_Model_entry 131 = .ok (.bipush 6, 2) := by decide +kernel
theorem d_Model_entry_133 : decode b_Model_entry 133 = .ok (.invokevirtual 209, 3) := by decide +kernel
theorem d_Model_entry_136 : decode b_Model_entry 136 = .ok (.ireturn, 1) := by decide +kernel
theorem d_Model_entry_137 : decode b_Model_entry 137 = .ok (.aload_n 0, 1) := by decide +kernel
theorem d_Model_entry_138 : decode b_Model_entry 138 = .ok (.iload_n 1, 1) := by decide +kernel
theorem d_Model_entry_139 : decode b_Model_entry 139 = .ok (.iload 4, 2) := by decide +kernel
theorem d_Model_entry_141 : decode b_Model_entry 141 = .ok (.invokevirtual 271, 3) := by decide +kernel
theorem d_Model_entry_144 : decode b_Model_entry 144 = .ok (.ifCond .eq 7, 3) := by decide +kernel
theorem d_Model_entry_147 : decode b_Model_entry 147 = .ok (.iconst 1, 1) := by decide +kernel
theorem d_Model_entry_148 : decode b_Model_entry 148 = .ok (.goto 4, 3) := by decide +kernel
theorem d_Model_entry_151 : decode b_Model_entry 151 = .ok (.iconst 0, 1) := by decide +kernel
theorem d_Model_entry_152 : decode b_Model_entry 152 = .ok (.ireturn, 1) := by decide +kernel
theorem d_Model_entry_153 : decode b_Model_entry 153 = .ok (.aload_n 0, 1) := by decide +kernel
theorem d_Model_entry_154 : decode b_Model_entry 154 = .ok (.iconst 2, 1) := by decide +kernel
theorem d_Model_entry_155 : decode b_Model_entry 155 = .ok (.invokevirtual 62, 3) := by decide +kernel
theorem d_Model_entry_158 : decode b_Model_entry 158 = .ok (.ireturn, 1) := by decide +kernel
def F_Model_entry (a0 : Int32) (a1 : Int32) (a2 : Int32) (σ : zSt) : Option (Int32 × zSt) :=
  (F_Model_isHouse a0 (zst σ 4 80 8 (0 : Int32))).bind fun r2 => if r2 = 0 then (bd2 (F_Model_fail (1 : Int32) (zst σ 4 80 8 (0 : Int32))) fun r4 σ5 => some (r4, σ5)) else ((F_Model_entriesOf a0 (zst σ 4 80 8 (0 : Int32))).bind fun r7 => (F_Model_isBetween a1 (0 : Int32) (r7 - (1 : Int32)) (zst σ 4 80 8 (0 : Int32))).bind fun r9 => if r9 = 0 then (bd2 (F_Model_fail (1 : Int32) (zst σ 4 80 8 (0 : Int32))) fun r35 σ36 => some (r35, σ36)) else ((F_Model_layQueue a0 (zst σ 4 80 8 (0 : Int32))).bind fun σ11 => if inb a1 40 = true then (if a2 = (0 : Int32) then ((F_Model_isCorrection (σ11.1 4 90 a1.toNatClampNeg) σ11).bind fun r14 => if r14 = 0 then some ((0 : Int32), σ11) else some ((1 : Int32), σ11)) else (if a2 = (1 : Int32) then some (((σ11.1 4 90 a1.toNatClampNeg) / (2 : Int32)), σ11) else (if a2 = (2 : Int32) then ((F_Model_timeOf a0 (σ11.1 4 90 a1.toNatClampNeg) σ11).bind fun r19 => some (r19, σ11)) else (if a2 = (3 : Int32) then ((F_Model_isCorrection (σ11.1 4 90 a1.toNatClampNeg) σ11).bind fun r22 => if r22 = 0 then ((F_Model_pair a0 ((σ11.1 4 90 a1.toNatClampNeg) / (2 : Int32)) (6 : Int32) σ11).bind fun r24 => some (r24, σ11)) else some ((-1 : Int32), σ11)) else (if a2 = (4 : Int32) then ((F_Model_canSend a0 (σ11.1 4 90 a1.toNatClampNeg) σ11).bind fun r28 => if r28 = 0 then some ((0 : Int32), σ11) else some ((1 : Int32), σ11)) else (bd2 (F_Model_fail (2 : Int32) σ11) fun r31 σ32 => some (r31, σ32))))))) else none))
set_option maxHeartbeats 4000000 in
set_option maxRecDepth 100000 in
theorem c_Model_entry {l : Launch} {G : zLA} (hm : zml G) {a0 : Int32} {a1 : Int32} {a2 : Int32} {σ : zSt} {r : Int32} {σ' : zSt} (hf : F_Model_entry a0 a1 a2 σ = some (r, σ')) : zM l G y_Model_entry (zws y_Model_entry b_Model_entry 5 (some .int)) rm_Model_entry [.ref (zad G 4 80), .int a0, .int a1, .int a2] σ (some (.int r)) σ' := by
  refine z_ofM (own := "VillageWavesModel") (lv := [(0, .ref (zad G 4 80)), (1, .int a0), (2, .int a1), (3, .int a2)]) (by decide +kernel) rfl rfl (Nat.le_of_ble_eq_true rfl) (fun p e s m args below meth c C => ?_)
  rw [F_Model_entry] at hf
  refine z_aload_n C d_Model_entry_0 0 rfl rfl ?_
  refine z_iconst C d_Model_entry_1 zki_0 ?_
  refine pf_Model_48 C (zm4 hm 80 rfl) rfl (Nat.le_of_ble_eq_true rfl) rfl d_Model_entry_2 ?_
  refine z_aload_n C d_Model_entry_5 0 rfl rfl ?_
  refine z_iload_n C d_Model_entry_6 1 rfl rfl ?_
  obtain ⟨r2, h1, hf⟩ := bd_s hf
  refine z_cVi C kl_Model_188 rfl (c_Model_isHouse hm h1) (zm4 hm 80 rfl) rfl rfl rfl (Nat.le_of_ble_eq_true rfl) ⟨(Nat.le_of_ble_eq_true rfl), (Nat.le_of_ble_eq_true rfl)⟩ ⟨(Nat.le_of_ble_eq_true rfl), (Nat.le_of_ble_eq_true rfl)⟩ d_Model_entry_7 ?_
  refine z_if_eq (tgt := 28) C d_Model_entry_10 rfl (fun h38 => ?_) (fun h38 => ?_)
  · have hf := iff_t hf h38
    refine z_aload_n C d_Model_entry_28 0 rfl rfl ?_
    refine z_iconst C d_Model_entry_29 zki_1 ?_
    obtain ⟨r4, σ5, h3, hf⟩ := bd2_s hf
    refine z_cVi C kl_Model_62 rfl (c_Model_fail hm h3) (zm4 hm 80 rfl) rfl rfl rfl (Nat.le_of_ble_eq_true rfl) ⟨(Nat.le_of_ble_eq_true rfl), (Nat.le_of_ble_eq_true rfl)⟩ ⟨(Nat.le_of_ble_eq_true rfl), (Nat.le_of_ble_eq_true rfl)⟩ d_Model_entry_30 ?_
    cases hf
    exact z_iret C rfl (Nat.le_of_ble_eq_true rfl) (Nat.le_of_ble_eq_true rfl) d_Model_entry_33
  · have hf := iff_f hf h38
    refine z_iload_n C d_Model_entry_13 2 rfl rfl ?_
    refine z_iconst C d_Model_entry_14 zki_0 ?_
    refine z_aload_n C d_Model_entry_15 0 rfl rfl ?_
    refine z_iload_n C d_Model_entry_16 1 rfl rfl ?_
    obtain ⟨r7, h6, hf⟩ := bd_s hf
    refine z_cVi C kl_Model_213 rfl (c_Model_entriesOf hm h6) (zm4 hm 80 rfl) rfl rfl rfl (Nat.le_of_ble_eq_true rfl) ⟨(Nat.le_of_ble_eq_true rfl), (Nat.le_of_ble_eq_true rfl)⟩ ⟨(Nat.le_of_ble_eq_true rfl), (Nat.le_of_ble_eq_true rfl)⟩ d_Model_entry_17 ?_
    refine z_iconst C d_Model_entry_20 zki_1 ?_
    refine z_isub C d_Model_entry_21 ?_
    obtain ⟨r9, h8, hf⟩ := bd_s hf
    refine z_cSi C kl_Model_51 (c_Model_isBetween h8) rfl rfl (Nat.le_of_ble_eq_true rfl) ⟨(Nat.le_of_ble_eq_true rfl), (Nat.le_of_ble_eq_true rfl)⟩ ⟨(Nat.le_of_ble_eq_true rfl), (Nat.le_of_ble_eq_true rfl)⟩ d_Model_entry_22 ?_
    refine z_if_ne (tgt := 34) C d_Model_entry_25 rfl (fun h37 => ?_) (fun h37 => ?_)
    · have hf := iff_f hf h37
      refine z_aload_n C d_Model_entry_34 0 rfl rfl ?_
      refine z_iload_n C d_Model_entry_35 1 rfl rfl ?_
      obtain ⟨σ11, h10, hf⟩ := bd_s hf
      refine z_cVv C kl_Model_267 rfl (c_Model_layQueue hm h10) (zm4 hm 80 rfl) rfl rfl rfl (Nat.le_of_ble_eq_true rfl) ⟨(Nat.le_of_ble_eq_true rfl), (Nat.le_of_ble_eq_true rfl)⟩ ⟨(Nat.le_of_ble_eq_true rfl), (Nat.le_of_ble_eq_true rfl)⟩ d_Model_entry_36 ?_
      refine z_aload_n C d_Model_entry_39 0 rfl rfl ?_
      refine gf_Model_42 C (zm4 hm 80 rfl) rfl rfl d_Model_entry_40 ?_
      refine z_iload_n C d_Model_entry_43 2 rfl rfl ?_
      obtain ⟨h33, hf⟩ := iff_g hf
      refine z_iald C (zm4 hm 90 rfl) rfl (inb_in h33) rfl d_Model_entry_44 ?_
      refine z_istore C d_Model_entry_45 (by decide) ?_
      refine z_iload_n C d_Model_entry_47 4 rfl rfl ?_
      by_cases h12 : a2 = (0 : Int32)
      · have hf := iff_t hf h12
        refine z_tin (off := 36) (tgt := 84) C d_Model_entry_48 (by rw [h12]; decide) (by rw [h12]; decide) (by rw [h12]; rfl) rfl ?_
        refine z_aload_n C d_Model_entry_84 1 rfl rfl ?_
        refine z_iload C d_Model_entry_85 0 rfl ?_
        obtain ⟨r14, h13, hf⟩ := bd_s hf
        refine z_cVi C kl_Model_249 rfl (c_Model_isCorrection hm h13) (zm4 hm 80 rfl) rfl rfl rfl (Nat.le_of_ble_eq_true rfl) ⟨(Nat.le_of_ble_eq_true rfl), (Nat.le_of_ble_eq_true rfl)⟩ ⟨(Nat.le_of_ble_eq_true rfl), (Nat.le_of_ble_eq_true rfl)⟩ d_Model_entry_87 ?_
        refine z_if_eq (tgt := 97) C d_Model_entry_90 rfl (fun h15 => ?_) (fun h15 => ?_)
        · have hf := iff_t hf h15
          refine z_iconst C d_Model_entry_97 zki_0 ?_
          cases hf
          exact z_iret C rfl (Nat.le_of_ble_eq_true rfl) (Nat.le_of_ble_eq_true rfl) d_Model_entry_98
        · have hf := iff_f hf h15
          refine z_iconst C d_Model_entry_93 zki_1 ?_
          refine z_goto (tgt := 98) C d_Model_entry_94 rfl ?_
          cases hf
          exact z_iret C rfl (Nat.le_of_ble_eq_true rfl) (Nat.le_of_ble_eq_true rfl) d_Model_entry_98
      · have hf := iff_f hf h12
        by_cases h16 : a2 = (1 : Int32)
        · have hf := iff_t hf h16
          refine z_tin (off := 51) (tgt := 99) C d_Model_entry_48 (by rw [h16]; decide) (by rw [h16]; decide) (by rw [h16]; rfl) rfl ?_
          refine z_iload C d_Model_entry_99 0 rfl ?_
          refine z_iconst C d_Model_entry_101 zki_2 ?_
          refine z_idiv C d_Model_entry_102 (by decide) ?_
          cases hf
          exact z_iret C rfl (Nat.le_of_ble_eq_true rfl) (Nat.le_of_ble_eq_true rfl) d_Model_entry_103
        · have hf := iff_f hf h16
          by_cases h17 : a2 = (2 : Int32)
          · have hf := iff_t hf h17
            refine z_tin (off := 56) (tgt := 104) C d_Model_entry_48 (by rw [h17]; decide) (by rw [h17]; decide) (by rw [h17]; rfl) rfl ?_
            refine z_aload_n C d_Model_entry_104 1 rfl rfl ?_
            refine z_iload_n C d_Model_entry_105 2 rfl rfl ?_
            refine z_iload C d_Model_entry_106 0 rfl ?_
            obtain ⟨r19, h18, hf⟩ := bd_s hf
            refine z_cVi C kl_Model_252 rfl (c_Model_timeOf hm h18) (zm4 hm 80 rfl) rfl rfl rfl (Nat.le_of_ble_eq_true rfl) ⟨(Nat.le_of_ble_eq_true rfl), (Nat.le_of_ble_eq_true rfl)⟩ ⟨(Nat.le_of_ble_eq_true rfl), (Nat.le_of_ble_eq_true rfl)⟩ d_Model_entry_108 ?_
            cases hf
            exact z_iret C rfl (Nat.le_of_ble_eq_true rfl) (Nat.le_of_ble_eq_true rfl) d_Model_entry_111
          · have hf := iff_f hf h17
            by_cases h20 : a2 = (3 : Int32)
            · have hf := iff_t hf h20
              refine z_tin (off := 64) (tgt := 112) C d_Model_entry_48 (by rw [h20]; decide) (by rw [h20]; decide) (by rw [h20]; rfl) rfl ?_
              refine z_aload_n C d_Model_entry_112 1 rfl rfl ?_
              refine z_iload C d_Model_entry_113 0 rfl ?_
              obtain ⟨r22, h21, hf⟩ := bd_s hf
              refine z_cVi C kl_Model_249 rfl (c_Model_isCorrection hm h21) (zm4 hm 80 rfl) rfl rfl rfl (Nat.le_of_ble_eq_true rfl) ⟨(Nat.le_of_ble_eq_true rfl), (Nat.le_of_ble_eq_true rfl)⟩ ⟨(Nat.le_of_ble_eq_true rfl), (Nat.le_of_ble_eq_true rfl)⟩ d_Model_entry_115 ?_
              refine z_if_eq (tgt := 125) C d_Model_entry_118 rfl (fun h25 => ?_) (fun h25 => ?_)
              · have hf := iff_t hf h25
                refine z_aload_n C d_Model_entry_125 1 rfl rfl ?_
                refine z_iload_n C d_Model_entry_126 2 rfl rfl ?_
                refine z_iload C d_Model_entry_127 0 rfl ?_
                refine z_iconst C d_Model_entry_129 zki_2 ?_
                refine z_idiv C d_Model_entry_130 (by decide) ?_
                refine z_bipush C d_Model_entry_131 zkb_6 ?_
                obtain ⟨r24, h23, hf⟩ := bd_s hf
                refine z_cVi C kl_Model_209 rfl (c_Model_pair hm h23) (zm4 hm 80 rfl) rfl rfl rfl (Nat.le_of_ble_eq_true rfl) ⟨(Nat.le_of_ble_eq_true rfl), (Nat.le_of_ble_eq_true rfl)⟩ ⟨(Nat.le_of_ble_eq_true rfl), (Nat.le_of_ble_eq_true rfl)⟩ d_Model_entry_133 ?_
                cases hf
                exact z_iret C rfl (Nat.le_of_ble_eq_true rfl) (Nat.le_of_ble_eq_true rfl) d_Model_entry_136
              · have hf := iff_f hf h25
                refine z_iconst C d_Model_entry_121 zki_m1 ?_
                refine z_goto (tgt := 136) C d_Model_entry_122 rfl ?_
                cases hf
                exact z_iret C rfl (Nat.le_of_ble_eq_true rfl) (Nat.le_of_ble_eq_true rfl) d_Model_entry_136
            · have hf := iff_f hf h20
              by_cases h26 : a2 = (4 : Int32)
              · have hf := iff_t hf h26
                refine z_tin (off := 89) (tgt := 137) C d_Model_entry_48 (by rw [h26]; decide) (by rw [h26]; decide) (by rw [h26]; rfl) rfl ?_
                refine z_aload_n C d_Model_entry_137 1 rfl rfl ?_
                refine z_iload_n C d_Model_entry_138 2 rfl rfl ?_
                refine z_iload C d_Model_entry_139 0 rfl ?_
                obtain ⟨r28, h27, hf⟩ := bd_s hf
                refine z_cVi C kl_Model_271 rfl (c_Model_canSend hm h27) (zm4 hm 80 rfl) rfl rfl rfl (Nat.le_of_ble_eq_true rfl) ⟨(Nat.le_of_ble_eq_true rfl), (Nat.le_of_ble_eq_true rfl)⟩ ⟨(Nat.le_of_ble_eq_true rfl), (Nat.le_of_ble_eq_true rfl)⟩ d_Model_entry_141 ?_
                refine z_if_eq (tgt := 151) C d_Model_entry_144 rfl (fun h29 => ?_) (fun h29 => ?_)
                · have hf := iff_t hf h29
                  refine z_iconst C d_Model_entry_151 zki_0 ?_
                  cases hf
                  exact z_iret C rfl (Nat.le_of_ble_eq_true rfl) (Nat.le_of_ble_eq_true rfl) d_Model_entry_152
                · have hf := iff_f hf h29
                  refine z_iconst C d_Model_entry_147 zki_1 ?_
                  refine z_goto (tgt := 152) C d_Model_entry_148 rfl ?_
                  cases hf
                  exact z_iret C rfl (Nat.le_of_ble_eq_true rfl) (Nat.le_of_ble_eq_true rfl) d_Model_entry_152
              · have hf := iff_f hf h26
                refine z_tout (tgt := 153) C d_Model_entry_48 (ztab_0_4 h12 h16 h17 h20 h26) rfl ?_
                refine z_aload_n C d_Model_entry_153 1 rfl rfl ?_
                refine z_iconst C d_Model_entry_154 zki_2 ?_
                obtain ⟨r31, σ32, h30, hf⟩ := bd2_s hf
                refine z_cVi C kl_Model_62 rfl (c_Model_fail hm h30) (zm4 hm 80 rfl) rfl rfl rfl (Nat.le_of_ble_eq_true rfl) ⟨(Nat.le_of_ble_eq_true rfl), (Nat.le_of_ble_eq_true rfl)⟩ ⟨(Nat.le_of_ble_eq_true rfl), (Nat.le_of_ble_eq_true rfl)⟩ d_Model_entry_155 ?_
                cases hf
                exact z_iret C rfl (Nat.le_of_ble_eq_true rfl) (Nat.le_of_ble_eq_true rfl) d_Model_entry_158
    · have hf := iff_t hf h37
      refine z_aload_n C d_Model_entry_28 0 rfl rfl ?_
      refine z_iconst C d_Model_entry_29 zki_1 ?_
      obtain ⟨r35, σ36, h34, hf⟩ := bd2_s hf
      refine z_cVi C kl_Model_62 rfl (c_Model_fail hm h34) (zm4 hm 80 rfl) rfl rfl rfl (Nat.le_of_ble_eq_true rfl) ⟨(Nat.le_of_ble_eq_true rfl), (Nat.le_of_ble_eq_true rfl)⟩ ⟨(Nat.le_of_ble_eq_true rfl), (Nat.le_of_ble_eq_true rfl)⟩ d_Model_entry_30 ?_
      cases hf
      exact z_iret C rfl (Nat.le_of_ble_eq_true rfl) (Nat.le_of_ble_eq_true rfl) d_Model_entry_33
abbrev rm_Model_greatestHops : Room := { frames := 2, cells := 0, slots := 0, locals := 44 }
theorem d_Model_greatestHops_0 : decode b_Model_greatestHops 0 = .ok (.iconst 0, 1) := by decide +kernel
theorem d_Model_greatestHops_1 : decode b_Model_greatestHops 1 = .ok (.istore_n 2, 1) := by decide +kernel
theorem d_Model_greatestHops_2 : decode b_Model_greatestHops 2 = .ok (.iconst 0, 1) := by decide +kernel
theorem d_Model_greatestHops_3 : decode b_Model_greatestHops 3 = .ok (.istore_n 3, 1) := by decide +kernel
theorem d_Model_greatestHops_4 : decode b_Model_greatestHops 4 = .ok (.iload_n 3, 1) := by decide +kernel
theorem d_Model_greatestHops_5 : decode b_Model_greatestHops 5 = .ok (.aload_n 0, 1) := by decide +kernel
theorem d_Model_greatestHops_6 : decode b_Model_greatestHops 6 = .ok (.getfield 7, 3) := by decide +kernel
theorem d_Model_greatestHops_9 : decode b_Model_greatestHops 9 = .ok (.bipush 6, 2) := by decide +kernel
theorem d_Model_greatestHops_11 : decode b_Model_greatestHops 11 = .ok (.iaload, 1) := by decide +kernel
theorem d_Model_greatestHops_12 : decode b_Model_greatestHops 12 = .ok (.if_icmp .ge 21, 3) := by decide +kernel
theorem d_Model_greatestHops_15 : decode b_Model_greatestHops 15 = .ok (.iload_n 2, 1) := by decide +kernel
theorem d_Model_greatestHops_16 : decode b_Model_greatestHops 16 = .ok (.aload_n 0, 1) := by decide +kernel
theorem d_Model_greatestHops_17 : decode b_Model_greatestHops 17 = .ok (.iload_n 3, 1) := by decide +kernel
theorem d_Model_greatestHops_18 : decode b_Model_greatestHops 18 = .ok (.iload_n 1, 1) := by decide +kernel
theorem d_Model_greatestHops_19 : decode b_Model_greatestHops 19 = .ok (.iconst 3, 1) := by decide +kernel
theorem d_Model_greatestHops_20 : decode b_Model_greatestHops 20 = .ok (.invokevirtual 209, 3) := by decide +kernel
theorem d_Model_greatestHops_23 : decode b_Model_greatestHops 23 = .ok (.invokestatic 199, 3) := by decide +kernel
theorem d_Model_greatestHops_26 : decode b_Model_greatestHops 26 = .ok (.istore_n 2, 1) := by decide +kernel
theorem d_Model_greatestHops_27 : decode b_Model_greatestHops 27 = .ok (.iinc 3 1, 3) := by decide +kernel
theorem d_Model_greatestHops_30 : decode b_Model_greatestHops 30 = .ok (.goto (-26), 3) := by decide +kernel
theorem d_Model_greatestHops_33 : decode b_Model_greatestHops 33 = .ok (.iload_n 2, 1) := by decide +kernel
theorem d_Model_greatestHops_34 : decode b_Model_greatestHops 34 = .ok (.ireturn, 1) := by decide +kernel
def L_Model_greatestHops (σ : zSt) : Nat → Nat → Int32 → Int32 → Int32 → Option (Int32)
  | 0, _, _, _, _ => none
  | n + 1, 0, x1, x2, x3 => if (σ.1 4 81 6) ≤ x3 then some x2 else ((F_Model_pair x3 x1 (3 : Int32) σ).bind fun r2 => L_Model_greatestHops σ n 0 x1 (if x2 < r2 then r2 else x2) (x3 + (1 : Int32)))
  | _ + 1, _, _, _, _ => none
theorem e_Model_greatestHops_0 (σ : zSt) (n : Nat) (x1 : Int32) (x2 : Int32) (x3 : Int32) : L_Model_greatestHops σ (n + 1) 0 x1 x2 x3 = (if (σ.1 4 81 6) ≤ x3 then some x2 else ((F_Model_pair x3 x1 (3 : Int32) σ).bind fun r2 => L_Model_greatestHops σ n 0 x1 (if x2 < r2 then r2 else x2) (x3 + (1 : Int32)))) := rfl
set_option maxHeartbeats 4000000 in
set_option maxRecDepth 100000 in
theorem w_Model_greatestHops {l : Launch} {G : zLA} {p : Program} {e : Env} {s : State} {m : MethodId} {args : Array Value} {below : List Frame} {meth : Method} {c : Code} (C : zCx G p s m args meth c "VillageWavesModel" b_Model_greatestHops 4 (some .int)) (hm : zml G) {σ : zSt} {r : Int32} : ∀ n : Nat, (∀ (x1 : Int32) (x2 : Int32) (x3 : Int32), L_Model_greatestHops σ n 0 x1 x2 x3 = some r → zWV G p l e rm_Model_greatestHops s m args below meth c 4 0 0 (zQ G below args s rm_Model_greatestHops (some (.int r)) σ) 4 [(0, .ref (zad G 4 80)), (1, .int x1), (2, .int x2), (3, .int x3)] [] σ) := by
  intro n
  induction n with
  | zero => exact fun _ _ _ hf => (by cases hf)
  | succ n ih =>
    refine ?_
    · intro x1 x2 x3 hf
      rw [e_Model_greatestHops_0] at hf
      refine z_iload_n C d_Model_greatestHops_4 3 rfl rfl ?_
      refine z_aload_n C d_Model_greatestHops_5 0 rfl rfl ?_
      refine gf_Model_7 C (zm4 hm 80 rfl) rfl rfl d_Model_greatestHops_6 ?_
      refine z_bipush C d_Model_greatestHops_9 zkb_6 ?_
      refine z_iald C (zm4 hm 81 rfl) rfl (inb_in (by decide)) zc_6 d_Model_greatestHops_11 ?_
      refine z_icmp_ge (tgt := 33) C d_Model_greatestHops_12 rfl (fun h3 => ?_) (fun h3 => ?_)
      · have hf := iff_t hf h3
        refine z_iload_n C d_Model_greatestHops_33 2 rfl rfl ?_
        cases hf
        exact z_iret C rfl (Nat.le_of_ble_eq_true rfl) (Nat.le_of_ble_eq_true rfl) d_Model_greatestHops_34
      · have hf := iff_f hf h3
        refine z_iload_n C d_Model_greatestHops_15 2 rfl rfl ?_
        refine z_aload_n C d_Model_greatestHops_16 0 rfl rfl ?_
        refine z_iload_n C d_Model_greatestHops_17 3 rfl rfl ?_
        refine z_iload_n C d_Model_greatestHops_18 1 rfl rfl ?_
        refine z_iconst C d_Model_greatestHops_19 zki_3 ?_
        obtain ⟨r2, h1, hf⟩ := bd_s hf
        refine z_cVi C kl_Model_209 rfl (c_Model_pair hm h1) (zm4 hm 80 rfl) rfl rfl rfl (Nat.le_of_ble_eq_true rfl) ⟨(Nat.le_of_ble_eq_true rfl), (Nat.le_of_ble_eq_true rfl)⟩ ⟨(Nat.le_of_ble_eq_true rfl), (Nat.le_of_ble_eq_true rfl)⟩ d_Model_greatestHops_20 ?_
        refine z_mmax C zq1497 rfl (Nat.le_of_ble_eq_true rfl) (Nat.le_of_ble_eq_true rfl) (Nat.le_of_ble_eq_true rfl) (Nat.le_of_ble_eq_true rfl) (Nat.le_of_ble_eq_true rfl) d_Model_greatestHops_23 ?_
        refine z_istore_n C d_Model_greatestHops_26 rfl (by decide) ?_
        refine z_iinc C d_Model_greatestHops_27 3 rfl zki_1 (by decide) ?_
        refine z_goto (tgt := 4) C d_Model_greatestHops_30 rfl ?_
        exact z_sub [2, 3, 1, 0] rfl (ih _ _ _ hf)
def F_Model_greatestHops (a0 : Int32) (σ : zSt) : Option (Int32) :=
  L_Model_greatestHops σ zK 0 a0 (0 : Int32) (0 : Int32)
set_option maxHeartbeats 4000000 in
set_option maxRecDepth 100000 in
theorem c_Model_greatestHops {l : Launch} {G : zLA} (hm : zml G) {a0 : Int32} {σ : zSt} {r : Int32} (hf : F_Model_greatestHops a0 σ = some r) : zM l G y_Model_greatestHops (zws y_Model_greatestHops b_Model_greatestHops 4 (some .int)) rm_Model_greatestHops [.ref (zad G 4 80), .int a0] σ (some (.int r)) σ := by
  refine z_ofM (own := "VillageWavesModel") (lv := [(0, .ref (zad G 4 80)), (1, .int a0)]) (by decide +kernel) rfl rfl (Nat.le_of_ble_eq_true rfl) (fun p e s m args below meth c C => ?_)
  rw [F_Model_greatestHops] at hf
  refine z_iconst C d_Model_greatestHops_0 zki_0 ?_
  refine z_istore_n C d_Model_greatestHops_1 rfl (by decide) ?_
  refine z_iconst C d_Model_greatestHops_2 zki_0 ?_
  refine z_istore_n C d_Model_greatestHops_3 rfl (by decide) ?_
  exact z_sub [2, 3, 1, 0] rfl ((w_Model_greatestHops C hm zK) _ _ _ hf)
abbrev rm_Model_news : Room := { frames := 4, cells := 0, slots := 0, locals := 91 }
theorem d_Model_news_0 : decode b_Model_news 0 = .ok (.aload_n 0, 1) := by decide +kernel
theorem d_Model_news_1 : decode b_Model_news 1 = .ok (.iconst 0, 1) := by decide +kernel
theorem d_Model_news_2 : decode b_Model_news 2 = .ok (.putfield 48, 3) := by decide +kernel
theorem d_Model_news_5 : decode b_Model_news 5 = .ok (.aload_n 0, 1) := by decide +kernel
theorem d_Model_news_6 : decode b_Model_news 6 = .ok (.iload_n 1, 1) := by decide +kernel
theorem d_Model_news_7 : decode b_Model_news 7 = .ok (.invokevirtual 274, 3) := by decide +kernel
theorem d_Model_news_10 : decode b_Model_news 10 = .ok (.ifCond .ne 9, 3) := by decide +kernel
theorem d_Model_news_13 : decode b_Model_news 13 = .ok (.aload_n 0, 1) := by decide +kernel
theorem d_Model_news_14 : decode b_Model_news 14 = .ok (.iconst 1, 1) := by decide +kernel
theorem d_Model_news_15 : decode b_Model_news 15 = .ok (.invokevirtual 62, 3) := by decide +kernel
theorem d_Model_news_18 : decode b_Model_news 18 = .ok (.ireturn, 1) := by decide +kernel
theorem d_Model_news_19 : decode b_Model_news 19 = .ok (.iload_n 2, 1) := by decide +kernel
theorem d_Model_news_20 : decode b_Model_news 20 = .ok (.tableswitch 48 6 9 #[32, 32, 32, 42], 32) := by decide +kernel
theorem d_Model_news_52 : decode b_Model_news 52 = .ok (.aload_n 0, 1) := by decide +kernel
theorem d_Model_news_53 : decode b_Model_news 53 = .ok (.iload_n 1, 1) := by decide +kernel
theorem d_Model_news_54 : decode b_Model_news 54 = .ok (.iload_n 2, 1) := by decide +kernel
theorem d_Model_news_55 : decode b_Model_news 55 = .ok (.bipush 6, 2) := by decide +kernel
theorem d_Model_news_57 : decode b_Model_news 57 = .ok (.isub, 1) := by decide +kernel
theorem d_Model_news_58 : decode b_Model_news 58 = .ok (.invokevirtual 277, 3) := by decide +kernel
theorem d_Model_news_61 : decode b_Model_news 61 = .ok (.ireturn, 1) := by decide +kernel
theorem d_Model_news_62 : decode b_Model_news 62 = .ok (.aload_n 0, 1) := by decide +kernel
theorem d_Model_news_63 : decode b_Model_news 63 = .ok (.iload_n 1, 1) := by decide +kernel
theorem d_Model_news_64 : decode b_Model_news 64 = .ok (.invokevirtual 280, 3) := by decide +kernel
theorem d_Model_news_67 : decode b_Model_news 67 = .ok (.ireturn, 1) := by decide +kernel
theorem d_Model_news_68 : decode b_Model_news 68 = .ok (.iload_n 2, 1) := by decide +kernel
theorem d_Model_news_69 : decode b_Model_news 69 = .ok (.iconst 0, 1) := by decide +kernel
theorem d_Model_news_70 : decode b_Model_news 70 = .ok (.iconst 5, 1) := by decide +kernel
theorem d_Model_news_71 : decode b_Model_news 71 = .ok (.invokestatic 51, 3) := by decide +kernel
theorem d_Model_news_74 : decode b_Model_news 74 = .ok (.ifCond .eq 12, 3) := by decide +kernel
theorem d_Model_news_77 : decode b_Model_news 77 = .ok (.aload_n 0, 1) := by decide +kernel
theorem d_Model_news_78 : decode b_Model_news 78 = .ok (.iload_n 1, 1) := by decide +kernel
theorem d_Model_news_79 : decode b_Model_news 79 = .ok (.iload_n 2, 1) := by decide +kernel
theorem d_Model_news_80 : decode b_Model_news 80 = .ok (.invokevirtual 216, 3) := by decide +kernel
theorem d_Model_news_83 : decode b_Model_news 83 = .ok (.goto 8, 3) := by decide +kernel
theorem d_Model_news_86 : decode b_Model_news 86 = .ok (.aload_n 0, 1) := by decide +kernel
theorem d_Model_news_87 : decode b_Model_news 87 = .ok (.iconst 2, 1) := by decide +kernel
theorem d_Model_news_88 : decode b_Model_news 88 = .ok (.invokevirtual 62, 3) := by decide +kernel
theorem d_Model_news_91 : decode b_Model_news 91 = .ok (.ireturn, 1) := by decide +kernel
def F_Model_news (a0 : Int32) (a1 : Int32) (σ : zSt) : Option (Int32 × zSt) :=
  (F_Model_isNews a0 (zst σ 4 80 8 (0 : Int32))).bind fun r2 => if r2 = 0 then (bd2 (F_Model_fail (1 : Int32) (zst σ 4 80 8 (0 : Int32))) fun r24 σ25 => some (r24, σ25)) else (if a1 = (6 : Int32) then ((F_Model_housesOf a0 (a1 - (6 : Int32)) (zst σ 4 80 8 (0 : Int32))).bind fun r5 => some (r5, (zst σ 4 80 8 (0 : Int32)))) else (if a1 = (7 : Int32) then ((F_Model_housesOf a0 (a1 - (6 : Int32)) (zst σ 4 80 8 (0 : Int32))).bind fun r8 => some (r8, (zst σ 4 80 8 (0 : Int32)))) else (if a1 = (8 : Int32) then ((F_Model_housesOf a0 (a1 - (6 : Int32)) (zst σ 4 80 8 (0 : Int32))).bind fun r11 => some (r11, (zst σ 4 80 8 (0 : Int32)))) else (if a1 = (9 : Int32) then ((F_Model_greatestHops a0 (zst σ 4 80 8 (0 : Int32))).bind fun r14 => some (r14, (zst σ 4 80 8 (0 : Int32)))) else ((F_Model_isBetween a1 (0 : Int32) (5 : Int32) (zst σ 4 80 8 (0 : Int32))).bind fun r16 => if r16 = 0 then (bd2 (F_Model_fail (2 : Int32) (zst σ 4 80 8 (0 : Int32))) fun r18 σ19 => some (r18, σ19)) else ((F_Model_story a0 a1 (zst σ 4 80 8 (0 : Int32))).bind fun r21 => some (r21, (zst σ 4 80 8 (0 : Int32)))))))))
set_option maxHeartbeats 4000000 in
set_option maxRecDepth 100000 in
theorem c_Model_news {l : Launch} {G : zLA} (hm : zml G) {a0 : Int32} {a1 : Int32} {σ : zSt} {r : Int32} {σ' : zSt} (hf : F_Model_news a0 a1 σ = some (r, σ')) : zM l G y_Model_news (zws y_Model_news b_Model_news 3 (some .int)) rm_Model_news [.ref (zad G 4 80), .int a0, .int a1] σ (some (.int r)) σ' := by
  refine z_ofM (own := "VillageWavesModel") (lv := [(0, .ref (zad G 4 80)), (1, .int a0), (2, .int a1)]) (by decide +kernel) rfl rfl (Nat.le_of_ble_eq_true rfl) (fun p e s m args below meth c C => ?_)
  rw [F_Model_news] at hf
  refine z_aload_n C d_Model_news_0 0 rfl rfl ?_
  refine z_iconst C d_Model_news_1 zki_0 ?_
  refine pf_Model_48 C (zm4 hm 80 rfl) rfl (Nat.le_of_ble_eq_true rfl) rfl d_Model_news_2 ?_
  refine z_aload_n C d_Model_news_5 0 rfl rfl ?_
  refine z_iload_n C d_Model_news_6 1 rfl rfl ?_
  obtain ⟨r2, h1, hf⟩ := bd_s hf
  refine z_cVi C kl_Model_274 rfl (c_Model_isNews hm h1) (zm4 hm 80 rfl) rfl rfl rfl (Nat.le_of_ble_eq_true rfl) ⟨(Nat.le_of_ble_eq_true rfl), (Nat.le_of_ble_eq_true rfl)⟩ ⟨(Nat.le_of_ble_eq_true rfl), (Nat.le_of_ble_eq_true rfl)⟩ d_Model_news_7 ?_
  refine z_if_ne (tgt := 19) C d_Model_news_10 rfl (fun h26 => ?_) (fun h26 => ?_)
  · have hf := iff_f hf h26
    refine z_iload_n C d_Model_news_19 2 rfl rfl ?_
    by_cases h3 : a1 = (6 : Int32)
    · have hf := iff_t hf h3
      refine z_tin (off := 32) (tgt := 52) C d_Model_news_20 (by rw [h3]; decide) (by rw [h3]; decide) (by rw [h3]; rfl) rfl ?_
      refine z_aload_n C d_Model_news_52 0 rfl rfl ?_
      refine z_iload_n C d_Model_news_53 1 rfl rfl ?_
      refine z_iload_n C d_Model_news_54 2 rfl rfl ?_
      refine z_bipush C d_Model_news_55 zkb_6 ?_
      refine z_isub C d_Model_news_57 ?_
      obtain ⟨r5, h4, hf⟩ := bd_s hf
      refine z_cVi C kl_Model_277 rfl (c_Model_housesOf hm h4) (zm4 hm 80 rfl) rfl rfl rfl (Nat.le_of_ble_eq_true rfl) ⟨(Nat.le_of_ble_eq_true rfl), (Nat.le_of_ble_eq_true rfl)⟩ ⟨(Nat.le_of_ble_eq_true rfl), (Nat.le_of_ble_eq_true rfl)⟩ d_Model_news_58 ?_
      cases hf
      exact z_iret C rfl (Nat.le_of_ble_eq_true rfl) (Nat.le_of_ble_eq_true rfl) d_Model_news_61
    · have hf := iff_f hf h3
      by_cases h6 : a1 = (7 : Int32)
      · have hf := iff_t hf h6
        refine z_tin (off := 32) (tgt := 52) C d_Model_news_20 (by rw [h6]; decide) (by rw [h6]; decide) (by rw [h6]; rfl) rfl ?_
        refine z_aload_n C d_Model_news_52 0 rfl rfl ?_
        refine z_iload_n C d_Model_news_53 1 rfl rfl ?_
        refine z_iload_n C d_Model_news_54 2 rfl rfl ?_
        refine z_bipush C d_Model_news_55 zkb_6 ?_
        refine z_isub C d_Model_news_57 ?_
        obtain ⟨r8, h7, hf⟩ := bd_s hf
        refine z_cVi C kl_Model_277 rfl (c_Model_housesOf hm h7) (zm4 hm 80 rfl) rfl rfl rfl (Nat.le_of_ble_eq_true rfl) ⟨(Nat.le_of_ble_eq_true rfl), (Nat.le_of_ble_eq_true rfl)⟩ ⟨(Nat.le_of_ble_eq_true rfl), (Nat.le_of_ble_eq_true rfl)⟩ d_Model_news_58 ?_
        cases hf
        exact z_iret C rfl (Nat.le_of_ble_eq_true rfl) (Nat.le_of_ble_eq_true rfl) d_Model_news_61
      · have hf := iff_f hf h6
        by_cases h9 : a1 = (8 : Int32)
        · have hf := iff_t hf h9
          refine z_tin (off := 32) (tgt := 52) C d_Model_news_20 (by rw [h9]; decide) (by rw [h9]; decide) (by rw [h9]; rfl) rfl ?_
          refine z_aload_n C d_Model_news_52 0 rfl rfl ?_
          refine z_iload_n C d_Model_news_53 1 rfl rfl ?_
          refine z_iload_n C d_Model_news_54 2 rfl rfl ?_
          refine z_bipush C d_Model_news_55 zkb_6 ?_
          refine z_isub C d_Model_news_57 ?_
          obtain ⟨r11, h10, hf⟩ := bd_s hf
          refine z_cVi C kl_Model_277 rfl (c_Model_housesOf hm h10) (zm4 hm 80 rfl) rfl rfl rfl (Nat.le_of_ble_eq_true rfl) ⟨(Nat.le_of_ble_eq_true rfl), (Nat.le_of_ble_eq_true rfl)⟩ ⟨(Nat.le_of_ble_eq_true rfl), (Nat.le_of_ble_eq_true rfl)⟩ d_Model_news_58 ?_
          cases hf
          exact z_iret C rfl (Nat.le_of_ble_eq_true rfl) (Nat.le_of_ble_eq_true rfl) d_Model_news_61
        · have hf := iff_f hf h9
          by_cases h12 : a1 = (9 : Int32)
          · have hf := iff_t hf h12
            refine z_tin (off := 42) (tgt := 62) C d_Model_news_20 (by rw [h12]; decide) (by rw [h12]; decide) (by rw [h12]; rfl) rfl ?_
            refine z_aload_n C d_Model_news_62 0 rfl rfl ?_
            refine z_iload_n C d_Model_news_63 1 rfl rfl ?_
            obtain ⟨r14, h13, hf⟩ := bd_s hf
            refine z_cVi C kl_Model_280 rfl (c_Model_greatestHops hm h13) (zm4 hm 80 rfl) rfl rfl rfl (Nat.le_of_ble_eq_true rfl) ⟨(Nat.le_of_ble_eq_true rfl), (Nat.le_of_ble_eq_true rfl)⟩ ⟨(Nat.le_of_ble_eq_true rfl), (Nat.le_of_ble_eq_true rfl)⟩ d_Model_news_64 ?_
            cases hf
            exact z_iret C rfl (Nat.le_of_ble_eq_true rfl) (Nat.le_of_ble_eq_true rfl) d_Model_news_67
          · have hf := iff_f hf h12
            refine z_tout (tgt := 68) C d_Model_news_20 (ztab_6_9 h3 h6 h9 h12) rfl ?_
            refine z_iload_n C d_Model_news_68 2 rfl rfl ?_
            refine z_iconst C d_Model_news_69 zki_0 ?_
            refine z_iconst C d_Model_news_70 zki_5 ?_
            obtain ⟨r16, h15, hf⟩ := bd_s hf
            refine z_cSi C kl_Model_51 (c_Model_isBetween h15) rfl rfl (Nat.le_of_ble_eq_true rfl) ⟨(Nat.le_of_ble_eq_true rfl), (Nat.le_of_ble_eq_true rfl)⟩ ⟨(Nat.le_of_ble_eq_true rfl), (Nat.le_of_ble_eq_true rfl)⟩ d_Model_news_71 ?_
            refine z_if_eq (tgt := 86) C d_Model_news_74 rfl (fun h22 => ?_) (fun h22 => ?_)
            · have hf := iff_t hf h22
              refine z_aload_n C d_Model_news_86 0 rfl rfl ?_
              refine z_iconst C d_Model_news_87 zki_2 ?_
              obtain ⟨r18, σ19, h17, hf⟩ := bd2_s hf
              refine z_cVi C kl_Model_62 rfl (c_Model_fail hm h17) (zm4 hm 80 rfl) rfl rfl rfl (Nat.le_of_ble_eq_true rfl) ⟨(Nat.le_of_ble_eq_true rfl), (Nat.le_of_ble_eq_true rfl)⟩ ⟨(Nat.le_of_ble_eq_true rfl), (Nat.le_of_ble_eq_true rfl)⟩ d_Model_news_88 ?_
              cases hf
              exact z_iret C rfl (Nat.le_of_ble_eq_true rfl) (Nat.le_of_ble_eq_true rfl) d_Model_news_91
            · have hf := iff_f hf h22
              refine z_aload_n C d_Model_news_77 0 rfl rfl ?_
              refine z_iload_n C d_Model_news_78 1 rfl rfl ?_
              refine z_iload_n C d_Model_news_79 2 rfl rfl ?_
              obtain ⟨r21, h20, hf⟩ := bd_s hf
              refine z_cVi C kl_Model_216 rfl (c_Model_story hm h20) (zm4 hm 80 rfl) rfl rfl rfl (Nat.le_of_ble_eq_true rfl) ⟨(Nat.le_of_ble_eq_true rfl), (Nat.le_of_ble_eq_true rfl)⟩ ⟨(Nat.le_of_ble_eq_true rfl), (Nat.le_of_ble_eq_true rfl)⟩ d_Model_news_80 ?_
              refine z_goto (tgt := 91) C d_Model_news_83 rfl ?_
              cases hf
              exact z_iret C rfl (Nat.le_of_ble_eq_true rfl) (Nat.le_of_ble_eq_true rfl) d_Model_news_91
  · have hf := iff_t hf h26
    refine z_aload_n C d_Model_news_13 0 rfl rfl ?_
    refine z_iconst C d_Model_news_14 zki_1 ?_
    obtain ⟨r24, σ25, h23, hf⟩ := bd2_s hf
    refine z_cVi C kl_Model_62 rfl (c_Model_fail hm h23) (zm4 hm 80 rfl) rfl rfl rfl (Nat.le_of_ble_eq_true rfl) ⟨(Nat.le_of_ble_eq_true rfl), (Nat.le_of_ble_eq_true rfl)⟩ ⟨(Nat.le_of_ble_eq_true rfl), (Nat.le_of_ble_eq_true rfl)⟩ d_Model_news_15 ?_
    cases hf
    exact z_iret C rfl (Nat.le_of_ble_eq_true rfl) (Nat.le_of_ble_eq_true rfl) d_Model_news_18
abbrev rm_Model_source : Room := { frames := 2, cells := 0, slots := 0, locals := 44 }
theorem d_Model_source_0 : decode b_Model_source 0 = .ok (.aload_n 0, 1) := by decide +kernel
theorem d_Model_source_1 : decode b_Model_source 1 = .ok (.iconst 0, 1) := by decide +kernel
theorem d_Model_source_2 : decode b_Model_source 2 = .ok (.putfield 48, 3) := by decide +kernel
theorem d_Model_source_5 : decode b_Model_source 5 = .ok (.aload_n 0, 1) := by decide +kernel
theorem d_Model_source_6 : decode b_Model_source 6 = .ok (.iload_n 1, 1) := by decide +kernel
theorem d_Model_source_7 : decode b_Model_source 7 = .ok (.invokevirtual 188, 3) := by decide +kernel
theorem d_Model_source_10 : decode b_Model_source 10 = .ok (.ifCond .eq 21, 3) := by decide +kernel
theorem d_Model_source_13 : decode b_Model_source 13 = .ok (.aload_n 0, 1) := by decide +kernel
theorem d_Model_source_14 : decode b_Model_source 14 = .ok (.iload_n 2, 1) := by decide +kernel
theorem d_Model_source_15 : decode b_Model_source 15 = .ok (.invokevirtual 274, 3) := by decide +kernel
theorem d_Model_source_18 : decode b_Model_source 18 = .ok (.ifCond .eq 13, 3) := by decide +kernel
theorem d_Model_source_21 : decode b_Model_source 21 = .ok (.aload_n 0, 1) := by decide +kernel
theorem d_Model_source_22 : decode b_Model_source 22 = .ok (.iload_n 1, 1) := by decide +kernel
theorem d_Model_source_23 : decode b_Model_source 23 = .ok (.iload_n 2, 1) := by decide +kernel
theorem d_Model_source_24 : decode b_Model_source 24 = .ok (.iconst 2, 1) := by decide +kernel
theorem d_Model_source_25 : decode b_Model_source 25 = .ok (.invokevirtual 209, 3) := by decide +kernel
theorem d_Model_source_28 : decode b_Model_source 28 = .ok (.goto 8, 3) := by decide +kernel
theorem d_Model_source_31 : decode b_Model_source 31 = .ok (.aload_n 0, 1) := by decide +kernel
theorem d_Model_source_32 : decode b_Model_source 32 = .ok (.iconst 1, 1) := by decide +kernel
theorem d_Model_source_33 : decode b_Model_source 33 = .ok (.invokevirtual 62, 3) := by decide +kernel
theorem d_Model_source_36 : decode b_Model_source 36 = .ok (.ireturn, 1) := by decide +kernel
def F_Model_source (a0 : Int32) (a1 : Int32) (σ : zSt) : Option (Int32 × zSt) :=
  (F_Model_isHouse a0 (zst σ 4 80 8 (0 : Int32))).bind fun r2 => if r2 = 0 then (bd2 (F_Model_fail (1 : Int32) (zst σ 4 80 8 (0 : Int32))) fun r4 σ5 => some (r4, σ5)) else ((F_Model_isNews a1 (zst σ 4 80 8 (0 : Int32))).bind fun r7 => if r7 = 0 then (bd2 (F_Model_fail (1 : Int32) (zst σ 4 80 8 (0 : Int32))) fun r9 σ10 => some (r9, σ10)) else ((F_Model_pair a0 a1 (2 : Int32) (zst σ 4 80 8 (0 : Int32))).bind fun r12 => some (r12, (zst σ 4 80 8 (0 : Int32)))))
set_option maxHeartbeats 4000000 in
set_option maxRecDepth 100000 in
theorem c_Model_source {l : Launch} {G : zLA} (hm : zml G) {a0 : Int32} {a1 : Int32} {σ : zSt} {r : Int32} {σ' : zSt} (hf : F_Model_source a0 a1 σ = some (r, σ')) : zM l G y_Model_source (zws y_Model_source b_Model_source 3 (some .int)) rm_Model_source [.ref (zad G 4 80), .int a0, .int a1] σ (some (.int r)) σ' := by
  refine z_ofM (own := "VillageWavesModel") (lv := [(0, .ref (zad G 4 80)), (1, .int a0), (2, .int a1)]) (by decide +kernel) rfl rfl (Nat.le_of_ble_eq_true rfl) (fun p e s m args below meth c C => ?_)
  rw [F_Model_source] at hf
  refine z_aload_n C d_Model_source_0 0 rfl rfl ?_
  refine z_iconst C d_Model_source_1 zki_0 ?_
  refine pf_Model_48 C (zm4 hm 80 rfl) rfl (Nat.le_of_ble_eq_true rfl) rfl d_Model_source_2 ?_
  refine z_aload_n C d_Model_source_5 0 rfl rfl ?_
  refine z_iload_n C d_Model_source_6 1 rfl rfl ?_
  obtain ⟨r2, h1, hf⟩ := bd_s hf
  refine z_cVi C kl_Model_188 rfl (c_Model_isHouse hm h1) (zm4 hm 80 rfl) rfl rfl rfl (Nat.le_of_ble_eq_true rfl) ⟨(Nat.le_of_ble_eq_true rfl), (Nat.le_of_ble_eq_true rfl)⟩ ⟨(Nat.le_of_ble_eq_true rfl), (Nat.le_of_ble_eq_true rfl)⟩ d_Model_source_7 ?_
  refine z_if_eq (tgt := 31) C d_Model_source_10 rfl (fun h14 => ?_) (fun h14 => ?_)
  · have hf := iff_t hf h14
    refine z_aload_n C d_Model_source_31 0 rfl rfl ?_
    refine z_iconst C d_Model_source_32 zki_1 ?_
    obtain ⟨r4, σ5, h3, hf⟩ := bd2_s hf
    refine z_cVi C kl_Model_62 rfl (c_Model_fail hm h3) (zm4 hm 80 rfl) rfl rfl rfl (Nat.le_of_ble_eq_true rfl) ⟨(Nat.le_of_ble_eq_true rfl), (Nat.le_of_ble_eq_true rfl)⟩ ⟨(Nat.le_of_ble_eq_true rfl), (Nat.le_of_ble_eq_true rfl)⟩ d_Model_source_33 ?_
    cases hf
    exact z_iret C rfl (Nat.le_of_ble_eq_true rfl) (Nat.le_of_ble_eq_true rfl) d_Model_source_36
  · have hf := iff_f hf h14
    refine z_aload_n C d_Model_source_13 0 rfl rfl ?_
    refine z_iload_n C d_Model_source_14 2 rfl rfl ?_
    obtain ⟨r7, h6, hf⟩ := bd_s hf
    refine z_cVi C kl_Model_274 rfl (c_Model_isNews hm h6) (zm4 hm 80 rfl) rfl rfl rfl (Nat.le_of_ble_eq_true rfl) ⟨(Nat.le_of_ble_eq_true rfl), (Nat.le_of_ble_eq_true rfl)⟩ ⟨(Nat.le_of_ble_eq_true rfl), (Nat.le_of_ble_eq_true rfl)⟩ d_Model_source_15 ?_
    refine z_if_eq (tgt := 31) C d_Model_source_18 rfl (fun h13 => ?_) (fun h13 => ?_)
    · have hf := iff_t hf h13
      refine z_aload_n C d_Model_source_31 0 rfl rfl ?_
      refine z_iconst C d_Model_source_32 zki_1 ?_
      obtain ⟨r9, σ10, h8, hf⟩ := bd2_s hf
      refine z_cVi C kl_Model_62 rfl (c_Model_fail hm h8) (zm4 hm 80 rfl) rfl rfl rfl (Nat.le_of_ble_eq_true rfl) ⟨(Nat.le_of_ble_eq_true rfl), (Nat.le_of_ble_eq_true rfl)⟩ ⟨(Nat.le_of_ble_eq_true rfl), (Nat.le_of_ble_eq_true rfl)⟩ d_Model_source_33 ?_
      cases hf
      exact z_iret C rfl (Nat.le_of_ble_eq_true rfl) (Nat.le_of_ble_eq_true rfl) d_Model_source_36
    · have hf := iff_f hf h13
      refine z_aload_n C d_Model_source_21 0 rfl rfl ?_
      refine z_iload_n C d_Model_source_22 1 rfl rfl ?_
      refine z_iload_n C d_Model_source_23 2 rfl rfl ?_
      refine z_iconst C d_Model_source_24 zki_2 ?_
      obtain ⟨r12, h11, hf⟩ := bd_s hf
      refine z_cVi C kl_Model_209 rfl (c_Model_pair hm h11) (zm4 hm 80 rfl) rfl rfl rfl (Nat.le_of_ble_eq_true rfl) ⟨(Nat.le_of_ble_eq_true rfl), (Nat.le_of_ble_eq_true rfl)⟩ ⟨(Nat.le_of_ble_eq_true rfl), (Nat.le_of_ble_eq_true rfl)⟩ d_Model_source_25 ?_
      refine z_goto (tgt := 36) C d_Model_source_28 rfl ?_
      cases hf
      exact z_iret C rfl (Nat.le_of_ble_eq_true rfl) (Nat.le_of_ble_eq_true rfl) d_Model_source_36
abbrev rm_Model_owes : Room := { frames := 4, cells := 0, slots := 0, locals := 92 }
theorem d_Model_owes_0 : decode b_Model_owes 0 = .ok (.aload_n 0, 1) := by decide +kernel
theorem d_Model_owes_1 : decode b_Model_owes 1 = .ok (.iconst 0, 1) := by decide +kernel
theorem d_Model_owes_2 : decode b_Model_owes 2 = .ok (.putfield 48, 3) := by decide +kernel
theorem d_Model_owes_5 : decode b_Model_owes 5 = .ok (.aload_n 0, 1) := by decide +kernel
theorem d_Model_owes_6 : decode b_Model_owes 6 = .ok (.iload_n 1, 1) := by decide +kernel
theorem d_Model_owes_7 : decode b_Model_owes 7 = .ok (.invokevirtual 188, 3) := by decide +kernel
theorem d_Model_owes_10 : decode b_Model_owes 10 = .ok (.ifCond .eq 20, 3) := by decide +kernel
theorem d_Model_owes_13 : decode b_Model_owes 13 = .ok (.aload_n 0, 1) := by decide +kernel
theorem d_Model_owes_14 : decode b_Model_owes 14 = .ok (.iload_n 2, 1) := by decide +kernel
theorem d_Model_owes_15 : decode b_Model_owes 15 = .ok (.invokevirtual 274, 3) := by decide +kernel
theorem d_Model_owes_18 : decode b_Model_owes 18 = .ok (.ifCond .eq 12, 3) := by decide +kernel
theorem d_Model_owes_21 : decode b_Model_owes 21 = .ok (.aload_n 0, 1) := by decide +kernel
theorem d_Model_owes_22 : decode b_Model_owes 22 = .ok (.iload_n 1, 1) := by decide +kernel
theorem d_Model_owes_23 : decode b_Model_owes 23 = .ok (.iload_n 2, 1) := by decide +kernel
theorem d_Model_owes_24 : decode b_Model_owes 24 = .ok (.invokevirtual 264, 3) := by decide +kernel
theorem d_Model_owes_27 : decode b_Model_owes 27 = .ok (.goto 8, 3) := by decide +kernel
theorem d_Model_owes_30 : decode b_Model_owes 30 = .ok (.aload_n 0, 1) := by decide +kernel
theorem d_Model_owes_31 : decode b_Model_owes 31 = .ok (.iconst 1, 1) := by decide +kernel
theorem d_Model_owes_32 : decode b_Model_owes 32 = .ok (.invokevirtual 62, 3) := by decide +kernel
theorem d_Model_owes_35 : decode b_Model_owes 35 = .ok (.ireturn, 1) := by decide +kernel
def F_Model_owes (a0 : Int32) (a1 : Int32) (σ : zSt) : Option (Int32 × zSt) :=
  (F_Model_isHouse a0 (zst σ 4 80 8 (0 : Int32))).bind fun r2 => if r2 = 0 then (bd2 (F_Model_fail (1 : Int32) (zst σ 4 80 8 (0 : Int32))) fun r4 σ5 => some (r4, σ5)) else ((F_Model_isNews a1 (zst σ 4 80 8 (0 : Int32))).bind fun r7 => if r7 = 0 then (bd2 (F_Model_fail (1 : Int32) (zst σ 4 80 8 (0 : Int32))) fun r9 σ10 => some (r9, σ10)) else ((F_Model_owedBy a0 a1 (zst σ 4 80 8 (0 : Int32))).bind fun r12 => some (r12, (zst σ 4 80 8 (0 : Int32)))))
set_option maxHeartbeats 4000000 in
set_option maxRecDepth 100000 in
theorem c_Model_owes {l : Launch} {G : zLA} (hm : zml G) {a0 : Int32} {a1 : Int32} {σ : zSt} {r : Int32} {σ' : zSt} (hf : F_Model_owes a0 a1 σ = some (r, σ')) : zM l G y_Model_owes (zws y_Model_owes b_Model_owes 3 (some .int)) rm_Model_owes [.ref (zad G 4 80), .int a0, .int a1] σ (some (.int r)) σ' := by
  refine z_ofM (own := "VillageWavesModel") (lv := [(0, .ref (zad G 4 80)), (1, .int a0), (2, .int a1)]) (by decide +kernel) rfl rfl (Nat.le_of_ble_eq_true rfl) (fun p e s m args below meth c C => ?_)
  rw [F_Model_owes] at hf
  refine z_aload_n C d_Model_owes_0 0 rfl rfl ?_
  refine z_iconst C d_Model_owes_1 zki_0 ?_
  refine pf_Model_48 C (zm4 hm 80 rfl) rfl (Nat.le_of_ble_eq_true rfl) rfl d_Model_owes_2 ?_
  refine z_aload_n C d_Model_owes_5 0 rfl rfl ?_
  refine z_iload_n C d_Model_owes_6 1 rfl rfl ?_
  obtain ⟨r2, h1, hf⟩ := bd_s hf
  refine z_cVi C kl_Model_188 rfl (c_Model_isHouse hm h1) (zm4 hm 80 rfl) rfl rfl rfl (Nat.le_of_ble_eq_true rfl) ⟨(Nat.le_of_ble_eq_true rfl), (Nat.le_of_ble_eq_true rfl)⟩ ⟨(Nat.le_of_ble_eq_true rfl), (Nat.le_of_ble_eq_true rfl)⟩ d_Model_owes_7 ?_
  refine z_if_eq (tgt := 30) C d_Model_owes_10 rfl (fun h14 => ?_) (fun h14 => ?_)
  · have hf := iff_t hf h14
    refine z_aload_n C d_Model_owes_30 0 rfl rfl ?_
    refine z_iconst C d_Model_owes_31 zki_1 ?_
    obtain ⟨r4, σ5, h3, hf⟩ := bd2_s hf
    refine z_cVi C kl_Model_62 rfl (c_Model_fail hm h3) (zm4 hm 80 rfl) rfl rfl rfl (Nat.le_of_ble_eq_true rfl) ⟨(Nat.le_of_ble_eq_true rfl), (Nat.le_of_ble_eq_true rfl)⟩ ⟨(Nat.le_of_ble_eq_true rfl), (Nat.le_of_ble_eq_true rfl)⟩ d_Model_owes_32 ?_
    cases hf
    exact z_iret C rfl (Nat.le_of_ble_eq_true rfl) (Nat.le_of_ble_eq_true rfl) d_Model_owes_35
  · have hf := iff_f hf h14
    refine z_aload_n C d_Model_owes_13 0 rfl rfl ?_
    refine z_iload_n C d_Model_owes_14 2 rfl rfl ?_
    obtain ⟨r7, h6, hf⟩ := bd_s hf
    refine z_cVi C kl_Model_274 rfl (c_Model_isNews hm h6) (zm4 hm 80 rfl) rfl rfl rfl (Nat.le_of_ble_eq_true rfl) ⟨(Nat.le_of_ble_eq_true rfl), (Nat.le_of_ble_eq_true rfl)⟩ ⟨(Nat.le_of_ble_eq_true rfl), (Nat.le_of_ble_eq_true rfl)⟩ d_Model_owes_15 ?_
    refine z_if_eq (tgt := 30) C d_Model_owes_18 rfl (fun h13 => ?_) (fun h13 => ?_)
    · have hf := iff_t hf h13
      refine z_aload_n C d_Model_owes_30 0 rfl rfl ?_
      refine z_iconst C d_Model_owes_31 zki_1 ?_
      obtain ⟨r9, σ10, h8, hf⟩ := bd2_s hf
      refine z_cVi C kl_Model_62 rfl (c_Model_fail hm h8) (zm4 hm 80 rfl) rfl rfl rfl (Nat.le_of_ble_eq_true rfl) ⟨(Nat.le_of_ble_eq_true rfl), (Nat.le_of_ble_eq_true rfl)⟩ ⟨(Nat.le_of_ble_eq_true rfl), (Nat.le_of_ble_eq_true rfl)⟩ d_Model_owes_32 ?_
      cases hf
      exact z_iret C rfl (Nat.le_of_ble_eq_true rfl) (Nat.le_of_ble_eq_true rfl) d_Model_owes_35
    · have hf := iff_f hf h13
      refine z_aload_n C d_Model_owes_21 0 rfl rfl ?_
      refine z_iload_n C d_Model_owes_22 1 rfl rfl ?_
      refine z_iload_n C d_Model_owes_23 2 rfl rfl ?_
      obtain ⟨r12, h11, hf⟩ := bd_s hf
      refine z_cVi C kl_Model_264 rfl (c_Model_owedBy hm h11) (zm4 hm 80 rfl) rfl rfl rfl (Nat.le_of_ble_eq_true rfl) ⟨(Nat.le_of_ble_eq_true rfl), (Nat.le_of_ble_eq_true rfl)⟩ ⟨(Nat.le_of_ble_eq_true rfl), (Nat.le_of_ble_eq_true rfl)⟩ d_Model_owes_24 ?_
      refine z_goto (tgt := 35) C d_Model_owes_27 rfl ?_
      cases hf
      exact z_iret C rfl (Nat.le_of_ble_eq_true rfl) (Nat.le_of_ble_eq_true rfl) d_Model_owes_35
