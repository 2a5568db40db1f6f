abbrev rm_Model_spoken : Room := { frames := 1, cells := 0, slots := 0, locals := 22 }
theorem d_Model_spoken_0 : decode b_Model_spoken 0 = .ok (.aload_n 0, 1) := by decide +kernel
theorem d_Model_spoken_1 : decode b_Model_spoken 1 = .ok (.iconst 0, 1) := by decide +kernel
theorem d_Model_spoken_2 : decode b_Model_spoken 2 = .ok (.putfield 48, 3) := by decide +kernel
theorem d_Model_spoken_5 : decode b_Model_spoken 5 = .ok (.iload_n 1, 1) := by decide +kernel
theorem d_Model_spoken_6 : decode b_Model_spoken 6 = .ok (.ifCond .lt 12, 3) := by decide +kernel
theorem d_Model_spoken_9 : decode b_Model_spoken 9 = .ok (.iload_n 2, 1) := by decide +kernel
theorem d_Model_spoken_10 : decode b_Model_spoken 10 = .ok (.iconst 0, 1) := by decide +kernel
theorem d_Model_spoken_11 : decode b_Model_spoken 11 = .ok (.iconst 5, 1) := by decide +kernel
theorem d_Model_spoken_12 : decode b_Model_spoken 12 = .ok (.invokestatic 51, 3) := by decide +kernel
theorem d_Model_spoken_15 : decode b_Model_spoken 15 = .ok (.ifCond .ne 9, 3) := by decide +kernel
theorem d_Model_spoken_18 : decode b_Model_spoken 18 = .ok (.aload_n 0, 1) := by decide +kernel
theorem d_Model_spoken_19 : decode b_Model_spoken 19 = .ok (.iconst 1, 1) := by decide +kernel
theorem d_Model_spoken_20 : decode b_Model_spoken 20 = .ok (.invokevirtual 62, 3) := by decide +kernel
theorem d_Model_spoken_23 : decode b_Model_spoken 23 = .ok (.ireturn, 1) := by decide +kernel
theorem d_Model_spoken_24 : decode b_Model_spoken 24 = .ok (.iload_n 1, 1) := by decide +kernel
theorem d_Model_spoken_25 : decode b_Model_spoken 25 = .ok (.aload_n 0, 1) := by decide +kernel
theorem d_Model_spoken_26 : decode b_Model_spoken 26 = .ok (.getfield 7, 3) := by decide +kernel
theorem d_Model_spoken_29 : decode b_Model_spoken 29 = .ok (.bipush 11, 2) := by decide +kernel
theorem d_Model_spoken_31 : decode b_Model_spoken 31 = .ok (.iaload, 1) := by decide +kernel
theorem d_Model_spoken_32 : decode b_Model_spoken 32 = .ok (.if_icmp .ge 21, 3) := by decide +kernel
theorem d_Model_spoken_35 : decode b_Model_spoken 35 = .ok (.aload_n 0, 1) := by decide +kernel
theorem d_Model_spoken_36 : decode b_Model_spoken 36 = .ok (.getfield 7, 3) := by decide +kernel
theorem d_Model_spoken_39 : decode b_Model_spoken 39 = .ok (.sipush 2412, 3) := by decide +kernel
theorem d_Model_spoken_42 : decode b_Model_spoken 42 = .ok (.bipush 6, 2) := by decide +kernel
theorem d_Model_spoken_44 : decode b_Model_spoken 44 = .ok (.iload_n 1, 1) := by decide +kernel
theorem d_Model_spoken_45 : decode b_Model_spoken 45 = .ok (.imul, 1) := by decide +kernel
theorem d_Model_spoken_46 : decode b_Model_spoken 46 = .ok (.iadd, 1) := by decide +kernel
theorem d_Model_spoken_47 : decode b_Model_spoken 47 = .ok (.iload_n 2, 1) := by decide +kernel
theorem d_Model_spoken_48 : decode b_Model_spoken 48 = .ok (.iadd, 1) := by decide +kernel
theorem d_Model_spoken_49 : decode b_Model_spoken 49 = .ok (.iaload, 1) := by decide +kernel
theorem d_Model_spoken_50 : decode b_Model_spoken 50 = .ok (.goto 4, 3) := by decide +kernel
theorem d_Model_spoken_53 : decode b_Model_spoken 53 = .ok (.iconst (-1), 1) := by decide +kernel
theorem d_Model_spoken_54 : decode b_Model_spoken 54 = .ok (.ireturn, 1) := by decide +kernel
def F_Model_spoken (a0 : Int32) (a1 : Int32) (σ : zSt) : Option (Int32 × zSt) :=
  if a0 < 0 then (bd2 (F_Model_fail (1 : Int32) (zst σ 4 80 8 (0 : Int32))) fun r2 σ3 => some (r2, σ3)) else ((F_Model_isBetween a1 (0 : Int32) (5 : Int32) (zst σ 4 80 8 (0 : Int32))).bind fun r5 => if r5 = 0 then (bd2 (F_Model_fail (1 : Int32) (zst σ 4 80 8 (0 : Int32))) fun r9 σ10 => some (r9, σ10)) else (if ((zst σ 4 80 8 (0 : Int32)).1 4 81 11) ≤ a0 then some ((-1 : Int32), (zst σ 4 80 8 (0 : Int32))) else (if inb (((2412 : Int32) + ((6 : Int32) * a0)) + a1) 2592 = true then some (((zst σ 4 80 8 (0 : Int32)).1 4 81 (((2412 : Int32) + ((6 : Int32) * a0)) + a1).toNatClampNeg), (zst σ 4 80 8 (0 : Int32))) else none)))
set_option maxHeartbeats 4000000 in
set_option maxRecDepth 100000 in
theorem c_Model_spoken {l : Launch} {G : zLA} (hm : zml G) {a0 : Int32} {a1 : Int32} {σ : zSt} {r : Int32} {σ' : zSt} (hf : F_Model_spoken a0 a1 σ = some (r, σ')) : zM l G y_Model_spoken (zws y_Model_spoken b_Model_spoken 3 (some .int)) rm_Model_spoken [.ref (zad G 4 80), .int a0, .int a1] σ (some (.int r)) σ' := by
  refine z_ofM (own := "VillageWavesModel") (lv := [(0, .ref (zad G 4 80)), (1, .int a0), (2, .int a1)]) (by decide +kernel) rfl rfl (Nat.le_of_ble_eq_true rfl) (fun p e s m args below meth c C => ?_)
  rw [F_Model_spoken] at hf
  refine z_aload_n C d_Model_spoken_0 0 rfl rfl ?_
  refine z_iconst C d_Model_spoken_1 zki_0 ?_
  refine pf_Model_48 C (zm4 hm 80 rfl) rfl (Nat.le_of_ble_eq_true rfl) rfl d_Model_spoken_2 ?_
  refine z_iload_n C d_Model_spoken_5 1 rfl rfl ?_
  refine z_if_lt (tgt := 18) C d_Model_spoken_6 rfl (fun h12 => ?_) (fun h12 => ?_)
  · have hf := iff_t hf h12
    refine z_aload_n C d_Model_spoken_18 0 rfl rfl ?_
    refine z_iconst C d_Model_spoken_19 zki_1 ?_
    obtain ⟨r2, σ3, h1, hf⟩ := bd2_s hf
    refine z_cVi C kl_Model_62 rfl (c_Model_fail hm h1) (zm4 hm 80 rfl) rfl rfl rfl (Nat.le_of_ble_eq_true rfl) ⟨(Nat.le_of_ble_eq_true rfl), (Nat.le_of_ble_eq_true rfl)⟩ ⟨(Nat.le_of_ble_eq_true rfl), (Nat.le_of_ble_eq_true rfl)⟩ d_Model_spoken_20 ?_
    cases hf
    exact z_iret C rfl (Nat.le_of_ble_eq_true rfl) (Nat.le_of_ble_eq_true rfl) d_Model_spoken_23
  · have hf := iff_f hf h12
    refine z_iload_n C d_Model_spoken_9 2 rfl rfl ?_
    refine z_iconst C d_Model_spoken_10 zki_0 ?_
    refine z_iconst C d_Model_spoken_11 zki_5 ?_
    obtain ⟨r5, h4, hf⟩ := bd_s hf
    refine z_cSi C kl_Model_51 (c_Model_isBetween h4) rfl rfl (Nat.le_of_ble_eq_true rfl) ⟨(Nat.le_of_ble_eq_true rfl), (Nat.le_of_ble_eq_true rfl)⟩ ⟨(Nat.le_of_ble_eq_true rfl), (Nat.le_of_ble_eq_true rfl)⟩ d_Model_spoken_12 ?_
    refine z_if_ne (tgt := 24) C d_Model_spoken_15 rfl (fun h11 => ?_) (fun h11 => ?_)
    · have hf := iff_f hf h11
      refine z_iload_n C d_Model_spoken_24 1 rfl rfl ?_
      refine z_aload_n C d_Model_spoken_25 0 rfl rfl ?_
      refine gf_Model_7 C (zm4 hm 80 rfl) rfl rfl d_Model_spoken_26 ?_
      refine z_bipush C d_Model_spoken_29 zkb_11 ?_
      refine z_iald C (zm4 hm 81 rfl) rfl (inb_in (by decide)) zc_11 d_Model_spoken_31 ?_
      refine z_icmp_ge (tgt := 53) C d_Model_spoken_32 rfl (fun h7 => ?_) (fun h7 => ?_)
      · have hf := iff_t hf h7
        refine z_iconst C d_Model_spoken_53 zki_m1 ?_
        cases hf
        exact z_iret C rfl (Nat.le_of_ble_eq_true rfl) (Nat.le_of_ble_eq_true rfl) d_Model_spoken_54
      · have hf := iff_f hf h7
        refine z_aload_n C d_Model_spoken_35 0 rfl rfl ?_
        refine gf_Model_7 C (zm4 hm 80 rfl) rfl rfl d_Model_spoken_36 ?_
        refine z_sipush C d_Model_spoken_39 zks_2412 ?_
        refine z_bipush C d_Model_spoken_42 zkb_6 ?_
        refine z_iload_n C d_Model_spoken_44 1 rfl rfl ?_
        refine z_imul C d_Model_spoken_45 ?_
        refine z_iadd C d_Model_spoken_46 ?_
        refine z_iload_n C d_Model_spoken_47 2 rfl rfl ?_
        refine z_iadd C d_Model_spoken_48 ?_
        obtain ⟨h6, hf⟩ := iff_g hf
        refine z_iald C (zm4 hm 81 rfl) rfl (inb_in h6) rfl d_Model_spoken_49 ?_
        refine z_goto (tgt := 54) C d_Model_spoken_50 rfl ?_
        cases hf
        exact z_iret C rfl (Nat.le_of_ble_eq_true rfl) (Nat.le_of_ble_eq_true rfl) d_Model_spoken_54
    · have hf := iff_t hf h11
      refine z_aload_n C d_Model_spoken_18 0 rfl rfl ?_
      refine z_iconst C d_Model_spoken_19 zki_1 ?_
      obtain ⟨r9, σ10, h8, hf⟩ := bd2_s hf
      refine z_cVi C kl_Model_62 rfl (c_Model_fail hm h8) (zm4 hm 80 rfl) rfl rfl rfl (Nat.le_of_ble_eq_true rfl) ⟨(Nat.le_of_ble_eq_true rfl), (Nat.le_of_ble_eq_true rfl)⟩ ⟨(Nat.le_of_ble_eq_true rfl), (Nat.le_of_ble_eq_true rfl)⟩ d_Model_spoken_20 ?_
      cases hf
      exact z_iret C rfl (Nat.le_of_ble_eq_true rfl) (Nat.le_of_ble_eq_true rfl) d_Model_spoken_23
abbrev rm_Model_tell : Room := { frames := 4, cells := 0, slots := 0, locals := 92 }
theorem d_Model_tell_0 : decode b_Model_tell 0 = .ok (.aload_n 0, 1) := by decide +kernel
theorem d_Model_tell_1 : decode b_Model_tell 1 = .ok (.iconst 0, 1) := by decide +kernel
theorem d_Model_tell_2 : decode b_Model_tell 2 = .ok (.putfield 48, 3) := by decide +kernel
theorem d_Model_tell_5 : decode b_Model_tell 5 = .ok (.aload_n 0, 1) := by decide +kernel
theorem d_Model_tell_6 : decode b_Model_tell 6 = .ok (.iload_n 1, 1) := by decide +kernel
theorem d_Model_tell_7 : decode b_Model_tell 7 = .ok (.invokevirtual 188, 3) := by decide +kernel
theorem d_Model_tell_10 : decode b_Model_tell 10 = .ok (.ifCond .ne 9, 3) := by decide +kernel
theorem d_Model_tell_13 : decode b_Model_tell 13 = .ok (.aload_n 0, 1) := by decide +kernel
theorem d_Model_tell_14 : decode b_Model_tell 14 = .ok (.iconst 1, 1) := by decide +kernel
theorem d_Model_tell_15 : decode b_Model_tell 15 = .ok (.invokevirtual 62, 3) := by decide +kernel
theorem d_Model_tell_18 : decode b_Model_tell 18 = .ok (.ireturn, 1) := by decide +kernel
theorem d_Model_tell_19 : decode b_Model_tell 19 = .ok (.iload_n 2, 1) := by decide +kernel
theorem d_Model_tell_20 : decode b_Model_tell 20 = .ok (.iconst 0, 1) := by decide +kernel
theorem d_Model_tell_21 : decode b_Model_tell 21 = .ok (.bipush 99, 2) := by decide +kernel
theorem d_Model_tell_23 : decode b_Model_tell 23 = .ok (.invokestatic 51, 3) := by decide +kernel
theorem d_Model_tell_26 : decode b_Model_tell 26 = .ok (.ifCond .ne 9, 3) := by decide +kernel
theorem d_Model_tell_29 : decode b_Model_tell 29 = .ok (.aload_n 0, 1) := by decide +kernel
theorem d_Model_tell_30 : decode b_Model_tell 30 = .ok (.iconst 2, 1) := by decide +kernel
theorem d_Model_tell_31 : decode b_Model_tell 31 = .ok (.invokevirtual 62, 3) := by decide +kernel
theorem d_Model_tell_34 : decode b_Model_tell 34 = .ok (.ireturn, 1) := by decide +kernel
theorem d_Model_tell_35 : decode b_Model_tell 35 = .ok (.aload_n 0, 1) := by decide +kernel
theorem d_Model_tell_36 : decode b_Model_tell 36 = .ok (.getfield 7, 3) := by decide +kernel
theorem d_Model_tell_39 : decode b_Model_tell 39 = .ok (.bipush 7, 2) := by decide +kernel
theorem d_Model_tell_41 : decode b_Model_tell 41 = .ok (.iaload, 1) := by decide +kernel
theorem d_Model_tell_42 : decode b_Model_tell 42 = .ok (.bipush 20, 2) := by decide +kernel
theorem d_Model_tell_44 : decode b_Model_tell 44 = .ok (.if_icmp .ne 8, 3) := by decide +kernel
theorem d_Model_tell_47 : decode b_Model_tell 47 = .ok (.bipush (-2), 2) := by decide +kernel
theorem d_Model_tell_49 : decode b_Model_tell 49 = .ok (.goto 9, 3) := by decide +kernel
theorem d_Model_tell_52 : decode b_Model_tell 52 = .ok (.aload_n 0, 1) := by decide +kernel
theorem d_Model_tell_53 : decode b_Model_tell 53 = .ok (.iload_n 1, 1) := by decide +kernel
theorem d_Model_tell_54 : decode b_Model_tell 54 = .ok (.iload_n 2, 1) := by decide +kernel
theorem d_Model_tell_55 : decode b_Model_tell 55 = .ok (.invokevirtual 147, 3) := by decide +kernel
theorem d_Model_tell_58 : decode b_Model_tell 58 = .ok (.ireturn, 1) := by decide +kernel
def F_Model_tell (a0 : Int32) (a1 : Int32) (σ : zSt) : Option (Int32 × zSt) :=
  (F_Model_isHouse a0 (zst σ 4 80 8 (0 : Int32))).bind fun r2 => if r2 = 0 then (bd2 (F_Model_fail (1 : Int32) (zst σ 4 80 8 (0 : Int32))) fun r14 σ15 => some (r14, σ15)) else ((F_Model_isBetween a1 (0 : Int32) (99 : Int32) (zst σ 4 80 8 (0 : Int32))).bind fun r4 => if r4 = 0 then (bd2 (F_Model_fail (2 : Int32) (zst σ 4 80 8 (0 : Int32))) fun r10 σ11 => some (r10, σ11)) else (if ((zst σ 4 80 8 (0 : Int32)).1 4 81 7) = (20 : Int32) then some ((-2 : Int32), (zst σ 4 80 8 (0 : Int32))) else (bd2 (F_Model_appendNews a0 a1 (zst σ 4 80 8 (0 : Int32))) fun r6 σ7 => some (r6, σ7))))
set_option maxHeartbeats 4000000 in
set_option maxRecDepth 100000 in
theorem c_Model_tell {l : Launch} {G : zLA} (hm : zml G) {a0 : Int32} {a1 : Int32} {σ : zSt} {r : Int32} {σ' : zSt} (hf : F_Model_tell a0 a1 σ = some (r, σ')) : zM l G y_Model_tell (zws y_Model_tell b_Model_tell 3 (some .int)) rm_Model_tell [.ref (zad G 4 80), .int a0, .int a1] σ (some (.int r)) σ' := by
  refine z_ofM (own := "VillageWavesModel") (lv := [(0, .ref (zad G 4 80)), (1, .int a0), (2, .int a1)]) (by decide +kernel) rfl rfl (Nat.le_of_ble_eq_true rfl) (fun p e s m args below meth c C => ?_)
  rw [F_Model_tell] at hf
  refine z_aload_n C d_Model_tell_0 0 rfl rfl ?_
  refine z_iconst C d_Model_tell_1 zki_0 ?_
  refine pf_Model_48 C (zm4 hm 80 rfl) rfl (Nat.le_of_ble_eq_true rfl) rfl d_Model_tell_2 ?_
  refine z_aload_n C d_Model_tell_5 0 rfl rfl ?_
  refine z_iload_n C d_Model_tell_6 1 rfl rfl ?_
  obtain ⟨r2, h1, hf⟩ := bd_s hf
  refine z_cVi C kl_Model_188 rfl (c_Model_isHouse hm h1) (zm4 hm 80 rfl) rfl rfl rfl (Nat.le_of_ble_eq_true rfl) ⟨(Nat.le_of_ble_eq_true rfl), (Nat.le_of_ble_eq_true rfl)⟩ ⟨(Nat.le_of_ble_eq_true rfl), (Nat.le_of_ble_eq_true rfl)⟩ d_Model_tell_7 ?_
  refine z_if_ne (tgt := 19) C d_Model_tell_10 rfl (fun h16 => ?_) (fun h16 => ?_)
  · have hf := iff_f hf h16
    refine z_iload_n C d_Model_tell_19 2 rfl rfl ?_
    refine z_iconst C d_Model_tell_20 zki_0 ?_
    refine z_bipush C d_Model_tell_21 zkb_99 ?_
    obtain ⟨r4, h3, hf⟩ := bd_s hf
    refine z_cSi C kl_Model_51 (c_Model_isBetween h3) rfl rfl (Nat.le_of_ble_eq_true rfl) ⟨(Nat.le_of_ble_eq_true rfl), (Nat.le_of_ble_eq_true rfl)⟩ ⟨(Nat.le_of_ble_eq_true rfl), (Nat.le_of_ble_eq_true rfl)⟩ d_Model_tell_23 ?_
    refine z_if_ne (tgt := 35) C d_Model_tell_26 rfl (fun h12 => ?_) (fun h12 => ?_)
    · have hf := iff_f hf h12
      refine z_aload_n C d_Model_tell_35 0 rfl rfl ?_
      refine gf_Model_7 C (zm4 hm 80 rfl) rfl rfl d_Model_tell_36 ?_
      refine z_bipush C d_Model_tell_39 zkb_7 ?_
      refine z_iald C (zm4 hm 81 rfl) rfl (inb_in (by decide)) zc_7 d_Model_tell_41 ?_
      refine z_bipush C d_Model_tell_42 zkb_20 ?_
      refine z_icmp_ne (tgt := 52) C d_Model_tell_44 rfl (fun h8 => ?_) (fun h8 => ?_)
      · have hf := iff_f hf h8
        refine z_aload_n C d_Model_tell_52 0 rfl rfl ?_
        refine z_iload_n C d_Model_tell_53 1 rfl rfl ?_
        refine z_iload_n C d_Model_tell_54 2 rfl rfl ?_
        obtain ⟨r6, σ7, h5, hf⟩ := bd2_s hf
        refine z_cVi C kl_Model_147 rfl (c_Model_appendNews hm h5) (zm4 hm 80 rfl) rfl rfl rfl (Nat.le_of_ble_eq_true rfl) ⟨(Nat.le_of_ble_eq_true rfl), (Nat.le_of_ble_eq_true rfl)⟩ ⟨(Nat.le_of_ble_eq_true rfl), (Nat.le_of_ble_eq_true rfl)⟩ d_Model_tell_55 ?_
        cases hf
        exact z_iret C rfl (Nat.le_of_ble_eq_true rfl) (Nat.le_of_ble_eq_true rfl) d_Model_tell_58
      · have hf := iff_t hf h8
        refine z_bipush C d_Model_tell_47 zkb_m2 ?_
        refine z_goto (tgt := 58) C d_Model_tell_49 rfl ?_
        cases hf
        exact z_iret C rfl (Nat.le_of_ble_eq_true rfl) (Nat.le_of_ble_eq_true rfl) d_Model_tell_58
    · have hf := iff_t hf h12
      refine z_aload_n C d_Model_tell_29 0 rfl rfl ?_
      refine z_iconst C d_Model_tell_30 zki_2 ?_
      obtain ⟨r10, σ11, h9, hf⟩ := bd2_s hf
      refine z_cVi C kl_Model_62 rfl (c_Model_fail hm h9) (zm4 hm 80 rfl) rfl rfl rfl (Nat.le_of_ble_eq_true rfl) ⟨(Nat.le_of_ble_eq_true rfl), (Nat.le_of_ble_eq_true rfl)⟩ ⟨(Nat.le_of_ble_eq_true rfl), (Nat.le_of_ble_eq_true rfl)⟩ d_Model_tell_31 ?_
      cases hf
      exact z_iret C rfl (Nat.le_of_ble_eq_true rfl) (Nat.le_of_ble_eq_true rfl) d_Model_tell_34
  · have hf := iff_t hf h16
    refine z_aload_n C d_Model_tell_13 0 rfl rfl ?_
    refine z_iconst C d_Model_tell_14 zki_1 ?_
    obtain ⟨r14, σ15, h13, hf⟩ := bd2_s hf
    refine z_cVi C kl_Model_62 rfl (c_Model_fail hm h13) (zm4 hm 80 rfl) rfl rfl rfl (Nat.le_of_ble_eq_true rfl) ⟨(Nat.le_of_ble_eq_true rfl), (Nat.le_of_ble_eq_true rfl)⟩ ⟨(Nat.le_of_ble_eq_true rfl), (Nat.le_of_ble_eq_true rfl)⟩ d_Model_tell_15 ?_
    cases hf
    exact z_iret C rfl (Nat.le_of_ble_eq_true rfl) (Nat.le_of_ble_eq_true rfl) d_Model_tell_18
abbrev rm_Model_learn : Room := { frames := 4, cells := 0, slots := 0, locals := 92 }
theorem d_Model_learn_0 : decode b_Model_learn 0 = .ok (.aload_n 0, 1) := by decide +kernel
theorem d_Model_learn_1 : decode b_Model_learn 1 = .ok (.iload_n 1, 1) := by decide +kernel
theorem d_Model_learn_2 : decode b_Model_learn 2 = .ok (.iload_n 2, 1) := by decide +kernel
theorem d_Model_learn_3 : decode b_Model_learn 3 = .ok (.iconst 1, 1) := by decide +kernel
theorem d_Model_learn_4 : decode b_Model_learn 4 = .ok (.iconst 1, 1) := by decide +kernel
theorem d_Model_learn_5 : decode b_Model_learn 5 = .ok (.invokevirtual 184, 3) := by decide +kernel
theorem d_Model_learn_8 : decode b_Model_learn 8 = .ok (.aload_n 0, 1) := by decide +kernel
theorem d_Model_learn_9 : decode b_Model_learn 9 = .ok (.iload_n 1, 1) := by decide +kernel
theorem d_Model_learn_10 : decode b_Model_learn 10 = .ok (.iload_n 2, 1) := by decide +kernel
theorem d_Model_learn_11 : decode b_Model_learn 11 = .ok (.iconst 4, 1) := by decide +kernel
theorem d_Model_learn_12 : decode b_Model_learn 12 = .ok (.iconst 0, 1) := by decide +kernel
theorem d_Model_learn_13 : decode b_Model_learn 13 = .ok (.invokevirtual 184, 3) := by decide +kernel
theorem d_Model_learn_16 : decode b_Model_learn 16 = .ok (.aload_n 0, 1) := by decide +kernel
theorem d_Model_learn_17 : decode b_Model_learn 17 = .ok (.iload_n 1, 1) := by decide +kernel
theorem d_Model_learn_18 : decode b_Model_learn 18 = .ok (.iload_n 2, 1) := by decide +kernel
theorem d_Model_learn_19 : decode b_Model_learn 19 = .ok (.invokevirtual 264, 3) := by decide +kernel
theorem d_Model_learn_22 : decode b_Model_learn 22 = .ok (.ifCond .eq 27, 3) := by decide +kernel
theorem d_Model_learn_25 : decode b_Model_learn 25 = .ok (.aload_n 0, 1) := by decide +kernel
theorem d_Model_learn_26 : decode b_Model_learn 26 = .ok (.iload_n 1, 1) := by decide +kernel
theorem d_Model_learn_27 : decode b_Model_learn 27 = .ok (.iload_n 2, 1) := by decide +kernel
theorem d_Model_learn_28 : decode b_Model_learn 28 = .ok (.bipush 7, 2) := by decide +kernel
theorem d_Model_learn_30 : decode b_Model_learn 30 = .ok (.iconst 1, 1) := by decide +kernel
theorem d_Model_learn_31 : decode b_Model_learn 31 = .ok (.invokevirtual 184, 3) := by decide +kernel
theorem d_Model_learn_34 : decode b_Model_learn 34 = .ok (.aload_n 0, 1) := by decide +kernel
theorem d_Model_learn_35 : decode b_Model_learn 35 = .ok (.iload_n 1, 1) := by decide +kernel
theorem d_Model_learn_36 : decode b_Model_learn 36 = .ok (.iload_n 2, 1) := by decide +kernel
theorem d_Model_learn_37 : decode b_Model_learn 37 = .ok (.bipush 8, 2) := by decide +kernel
theorem d_Model_learn_39 : decode b_Model_learn 39 = .ok (.aload_n 0, 1) := by decide +kernel
theorem d_Model_learn_40 : decode b_Model_learn 40 = .ok (.getfield 7, 3) := by decide +kernel
theorem d_Model_learn_43 : decode b_Model_learn 43 = .ok (.bipush 8, 2) := by decide +kernel
theorem d_Model_learn_45 : decode b_Model_learn 45 = .ok (.iaload, 1) := by decide +kernel
theorem d_Model_learn_46 : decode b_Model_learn 46 = .ok (.invokevirtual 184, 3) := by decide +kernel
theorem d_Model_learn_49 : decode b_Model_learn 49 = .ok (.return_, 1) := by decide +kernel
def F_Model_learn (a0 : Int32) (a1 : Int32) (σ : zSt) : Option (zSt) :=
  (F_Model_setPair a0 a1 (1 : Int32) (1 : Int32) σ).bind fun σ2 => (F_Model_setPair a0 a1 (4 : Int32) (0 : Int32) σ2).bind fun σ4 => (F_Model_owedBy a0 a1 σ4).bind fun r6 => if r6 = 0 then some σ4 else ((F_Model_setPair a0 a1 (7 : Int32) (1 : Int32) σ4).bind fun σ8 => (F_Model_setPair a0 a1 (8 : Int32) (σ8.1 4 81 8) σ8).bind fun σ10 => some σ10)
set_option maxHeartbeats 4000000 in
set_option maxRecDepth 100000 in
theorem c_Model_learn {l : Launch} {G : zLA} (hm : zml G) {a0 : Int32} {a1 : Int32} {σ : zSt} {σ' : zSt} (hf : F_Model_learn a0 a1 σ = some σ') : zM l G y_Model_learn (zws y_Model_learn b_Model_learn 3 none) rm_Model_learn [.ref (zad G 4 80), .int a0, .int a1] σ none σ' := by
  refine z_ofM (own := "VillageWavesModel") (lv := [(0, .ref (zad G 4 80)), (1, .int a0), (2, .int a1)]) (by decide +kernel) rfl rfl (Nat.le_of_ble_eq_true rfl) (fun p e s m args below meth c C => ?_)
  rw [F_Model_learn] at hf
  refine z_aload_n C d_Model_learn_0 0 rfl rfl ?_
  refine z_iload_n C d_Model_learn_1 1 rfl rfl ?_
  refine z_iload_n C d_Model_learn_2 2 rfl rfl ?_
  refine z_iconst C d_Model_learn_3 zki_1 ?_
  refine z_iconst C d_Model_learn_4 zki_1 ?_
  obtain ⟨σ2, h1, hf⟩ := bd_s hf
  refine z_cVv C kl_Model_184 rfl (c_Model_setPair hm h1) (zm4 hm 80 rfl) rfl rfl rfl (Nat.le_of_ble_eq_true rfl) ⟨(Nat.le_of_ble_eq_true rfl), (Nat.le_of_ble_eq_true rfl)⟩ ⟨(Nat.le_of_ble_eq_true rfl), (Nat.le_of_ble_eq_true rfl)⟩ d_Model_learn_5 ?_
  refine z_aload_n C d_Model_learn_8 0 rfl rfl ?_
  refine z_iload_n C d_Model_learn_9 1 rfl rfl ?_
  refine z_iload_n C d_Model_learn_10 2 rfl rfl ?_
  refine z_iconst C d_Model_learn_11 zki_4 ?_
  refine z_iconst C d_Model_learn_12 zki_0 ?_
  obtain ⟨σ4, h3, hf⟩ := bd_s hf
  refine z_cVv C kl_Model_184 rfl (c_Model_setPair hm h3) (zm4 hm 80 rfl) rfl rfl rfl (Nat.le_of_ble_eq_true rfl) ⟨(Nat.le_of_ble_eq_true rfl), (Nat.le_of_ble_eq_true rfl)⟩ ⟨(Nat.le_of_ble_eq_true rfl), (Nat.le_of_ble_eq_true rfl)⟩ d_Model_learn_13 ?_
  refine z_aload_n C d_Model_learn_16 0 rfl rfl ?_
  refine z_iload_n C d_Model_learn_17 1 rfl rfl ?_
  refine z_iload_n C d_Model_learn_18 2 rfl rfl ?_
  obtain ⟨r6, h5, hf⟩ := bd_s hf
  refine z_cVi C kl_Model_264 rfl (c_Model_owedBy hm h5) (zm4 hm 80 rfl) rfl rfl rfl (Nat.le_of_ble_eq_true rfl) ⟨(Nat.le_of_ble_eq_true rfl), (Nat.le_of_ble_eq_true rfl)⟩ ⟨(Nat.le_of_ble_eq_true rfl), (Nat.le_of_ble_eq_true rfl)⟩ d_Model_learn_19 ?_
  refine z_if_eq (tgt := 49) C d_Model_learn_22 rfl (fun h11 => ?_) (fun h11 => ?_)
  · have hf := iff_t hf h11
    cases hf
    exact z_vret C rfl (Nat.le_of_ble_eq_true rfl) (Nat.le_of_ble_eq_true rfl) d_Model_learn_49
  · have hf := iff_f hf h11
    refine z_aload_n C d_Model_learn_25 0 rfl rfl ?_
    refine z_iload_n C d_Model_learn_26 1 rfl rfl ?_
    refine z_iload_n C d_Model_learn_27 2 rfl rfl ?_
    refine z_bipush C d_Model_learn_28 zkb_7 ?_
    refine z_iconst C d_Model_learn_30 zki_1 ?_
    obtain ⟨σ8, h7, hf⟩ := bd_s hf
    refine z_cVv C kl_Model_184 rfl (c_Model_setPair hm h7) (zm4 hm 80 rfl) rfl rfl rfl (Nat.le_of_ble_eq_true rfl) ⟨(Nat.le_of_ble_eq_true rfl), (Nat.le_of_ble_eq_true rfl)⟩ ⟨(Nat.le_of_ble_eq_true rfl), (Nat.le_of_ble_eq_true rfl)⟩ d_Model_learn_31 ?_
    refine z_aload_n C d_Model_learn_34 0 rfl rfl ?_
    refine z_iload_n C d_Model_learn_35 1 rfl rfl ?_
    refine z_iload_n C d_Model_learn_36 2 rfl rfl ?_
    refine z_bipush C d_Model_learn_37 zkb_8 ?_
    refine z_aload_n C d_Model_learn_39 0 rfl rfl ?_
    refine gf_Model_7 C (zm4 hm 80 rfl) rfl rfl d_Model_learn_40 ?_
    refine z_bipush C d_Model_learn_43 zkb_8 ?_
    refine z_iald C (zm4 hm 81 rfl) rfl (inb_in (by decide)) zc_8 d_Model_learn_45 ?_
    obtain ⟨σ10, h9, hf⟩ := bd_s hf
    refine z_cVv C kl_Model_184 rfl (c_Model_setPair hm h9) (zm4 hm 80 rfl) rfl rfl rfl (Nat.le_of_ble_eq_true rfl) ⟨(Nat.le_of_ble_eq_true rfl), (Nat.le_of_ble_eq_true rfl)⟩ ⟨(Nat.le_of_ble_eq_true rfl), (Nat.le_of_ble_eq_true rfl)⟩ d_Model_learn_46 ?_
    cases hf
    exact z_vret C rfl (Nat.le_of_ble_eq_true rfl) (Nat.le_of_ble_eq_true rfl) d_Model_learn_49
abbrev rm_Model_size : Room := { frames := 0, cells := 0, slots := 0, locals := 0 }
theorem d_Model_size_0 : decode b_Model_size 0 = .ok (.iconst 0, 1) := by decide +kernel
theorem d_Model_size_1 : decode b_Model_size 1 = .ok (.istore_n 1, 1) := by decide +kernel
theorem d_Model_size_2 : decode b_Model_size 2 = .ok (.iconst 0, 1) := by decide +kernel
theorem d_Model_size_3 : decode b_Model_size 3 = .ok (.istore_n 2, 1) := by decide +kernel
theorem d_Model_size_4 : decode b_Model_size 4 = .ok (.iload_n 2, 1) := by decide +kernel
theorem d_Model_size_5 : decode b_Model_size 5 = .ok (.bipush 20, 2) := by decide +kernel
theorem d_Model_size_7 : decode b_Model_size 7 = .ok (.if_icmp .ge 17, 3) := by decide +kernel
theorem d_Model_size_10 : decode b_Model_size 10 = .ok (.iload_n 1, 1) := by decide +kernel
theorem d_Model_size_11 : decode b_Model_size 11 = .ok (.iload_n 0, 1) := by decide +kernel
theorem d_Model_size_12 : decode b_Model_size 12 = .ok (.iload_n 2, 1) := by decide +kernel
theorem d_Model_size_13 : decode b_Model_size 13 = .ok (.ishr, 1) := by decide +kernel
theorem d_Model_size_14 : decode b_Model_size 14 = .ok (.iconst 1, 1) := by decide +kernel
theorem d_Model_size_15 : decode b_Model_size 15 = .ok (.iand, 1) := by decide +kernel
theorem d_Model_size_16 : decode b_Model_size 16 = .ok (.iadd, 1) := by decide +kernel
theorem d_Model_size_17 : decode b_Model_size 17 = .ok (.istore_n 1, 1) := by decide +kernel
theorem d_Model_size_18 : decode b_Model_size 18 = .ok (.iinc 2 1, 3) := by decide +kernel
theorem d_Model_size_21 : decode b_Model_size 21 = .ok (.goto (-17), 3) := by decide +kernel
theorem d_Model_size_24 : decode b_Model_size 24 = .ok (.iload_n 1, 1) := by decide +kernel
theorem d_Model_size_25 : decode b_Model_size 25 = .ok (.ireturn, 1) := by decide +kernel
def L_Model_size (σ : zSt) : Nat → Nat → Int32 → Int32 → Int32 → Option (Int32)
  | 0, _, _, _, _ => none
  | n + 1, 0, x0, x1, x2 => if (20 : Int32) ≤ x2 then some x1 else L_Model_size σ n 0 x0 (x1 + ((x0 >>> (x2 &&& 31)) &&& (1 : Int32))) (x2 + (1 : Int32))
  | _ + 1, _, _, _, _ => none
theorem e_Model_size_0 (σ : zSt) (n : Nat) (x0 : Int32) (x1 : Int32) (x2 : Int32) : L_Model_size σ (n + 1) 0 x0 x1 x2 = (if (20 : Int32) ≤ x2 then some x1 else L_Model_size σ n 0 x0 (x1 + ((x0 >>> (x2 &&& 31)) &&& (1 : Int32))) (x2 + (1 : Int32))) := rfl
set_option maxHeartbeats 4000000 in
set_option maxRecDepth 100000 in
theorem w_Model_size {l : Launch} {G : zLA} {p : Program} {e : Env} {s : State} {m : MethodId} {args : Array Value} {below : List Frame} {meth : Method} {c : Code} (C : zCx G p s m args meth c "VillageWavesModel" b_Model_size 3 (some .int)) {σ : zSt} {r : Int32} : ∀ n : Nat, (∀ (x0 : Int32) (x1 : Int32) (x2 : Int32), L_Model_size σ n 0 x0 x1 x2 = some r → zWV G p l e rm_Model_size s m args below meth c 3 0 0 (zQ G below args s rm_Model_size (some (.int r)) σ) 4 [(0, .int x0), (1, .int x1), (2, .int x2)] [] σ) := by
  intro n
  induction n with
  | zero => exact fun _ _ _ hf => (by cases hf)
  | succ n ih =>
    refine ?_
    · intro x0 x1 x2 hf
      rw [e_Model_size_0] at hf
      refine z_iload_n C d_Model_size_4 2 rfl rfl ?_
      refine z_bipush C d_Model_size_5 zkb_20 ?_
      refine z_icmp_ge (tgt := 24) C d_Model_size_7 rfl (fun h1 => ?_) (fun h1 => ?_)
      · have hf := iff_t hf h1
        refine z_iload_n C d_Model_size_24 1 rfl rfl ?_
        cases hf
        exact z_iret C rfl (Nat.le_of_ble_eq_true rfl) (Nat.le_of_ble_eq_true rfl) d_Model_size_25
      · have hf := iff_f hf h1
        refine z_iload_n C d_Model_size_10 1 rfl rfl ?_
        refine z_iload_n C d_Model_size_11 0 rfl rfl ?_
        refine z_iload_n C d_Model_size_12 2 rfl rfl ?_
        refine z_ishr C d_Model_size_13 ?_
        refine z_iconst C d_Model_size_14 zki_1 ?_
        refine z_iand C d_Model_size_15 ?_
        refine z_iadd C d_Model_size_16 ?_
        refine z_istore_n C d_Model_size_17 rfl (by decide) ?_
        refine z_iinc C d_Model_size_18 2 rfl zki_1 (by decide) ?_
        refine z_goto (tgt := 4) C d_Model_size_21 rfl ?_
        exact z_sub [2, 1, 0] rfl (ih _ _ _ hf)
def F_Model_size (a0 : Int32) (σ : zSt) : Option (Int32) :=
  L_Model_size σ zK 0 a0 (0 : Int32) (0 : Int32)
set_option maxHeartbeats 4000000 in
set_option maxRecDepth 100000 in
theorem c_Model_size {l : Launch} {G : zLA} {a0 : Int32} {σ : zSt} {r : Int32} (hf : F_Model_size a0 σ = some r) : zM l G y_Model_size (zws y_Model_size b_Model_size 3 (some .int)) rm_Model_size [.int a0] σ (some (.int r)) σ := by
  refine z_ofM (own := "VillageWavesModel") (lv := [(0, .int a0)]) (by decide +kernel) rfl rfl (Nat.le_of_ble_eq_true rfl) (fun p e s m args below meth c C => ?_)
  rw [F_Model_size] at hf
  refine z_iconst C d_Model_size_0 zki_0 ?_
  refine z_istore_n C d_Model_size_1 rfl (by decide) ?_
  refine z_iconst C d_Model_size_2 zki_0 ?_
  refine z_istore_n C d_Model_size_3 rfl (by decide) ?_
  exact z_sub [2, 1, 0] rfl ((w_Model_size C zK) _ _ _ hf)
abbrev rm_Model_correct : Room := { frames := 5, cells := 0, slots := 0, locals := 114 }
theorem d_Model_correct_0 : decode b_Model_correct 0 = .ok (.aload_n 0, 1) := by decide +kernel
theorem d_Model_correct_1 : decode b_Model_correct 1 = .ok (.iconst 0, 1) := by decide +kernel
theorem d_Model_correct_2 : decode b_Model_correct 2 = .ok (.putfield 48, 3) := by decide +kernel
theorem d_Model_correct_5 : decode b_Model_correct 5 = .ok (.aload_n 0, 1) := by decide +kernel
theorem d_Model_correct_6 : decode b_Model_correct 6 = .ok (.iload_n 1, 1) := by decide +kernel
theorem d_Model_correct_7 : decode b_Model_correct 7 = .ok (.invokevirtual 188, 3) := by decide +kernel
theorem d_Model_correct_10 : decode b_Model_correct 10 = .ok (.ifCond .eq 11, 3) := by decide +kernel
theorem d_Model_correct_13 : decode b_Model_correct 13 = .ok (.aload_n 0, 1) := by decide +kernel
theorem d_Model_correct_14 : decode b_Model_correct 14 = .ok (.iload_n 2, 1) := by decide +kernel
theorem d_Model_correct_15 : decode b_Model_correct 15 = .ok (.invokevirtual 274, 3) := by decide +kernel
theorem d_Model_correct_18 : decode b_Model_correct 18 = .ok (.ifCond .ne 9, 3) := by decide +kernel
theorem d_Model_correct_21 : decode b_Model_correct 21 = .ok (.aload_n 0, 1) := by decide +kernel
theorem d_Model_correct_22 : decode b_Model_correct 22 = .ok (.iconst 1, 1) := by decide +kernel
theorem d_Model_correct_23 : decode b_Model_correct 23 = .ok (.invokevirtual 62, 3) := by decide +kernel
theorem d_Model_correct_26 : decode b_Model_correct 26 = .ok (.ireturn, 1) := by decide +kernel
theorem d_Model_correct_27 : decode b_Model_correct 27 = .ok (.iload_n 3, 1) := by decide +kernel
theorem d_Model_correct_28 : decode b_Model_correct 28 = .ok (.iconst 0, 1) := by decide +kernel
theorem d_Model_correct_29 : decode b_Model_correct 29 = .ok (.bipush 99, 2) := by decide +kernel
theorem d_Model_correct_31 : decode b_Model_correct 31 = .ok (.invokestatic 51, 3) := by decide +kernel
theorem d_Model_correct_34 : decode b_Model_correct 34 = .ok (.ifCond .ne 9, 3) := by decide +kernel
theorem d_Model_correct_37 : decode b_Model_correct 37 = .ok (.aload_n 0, 1) := by decide +kernel
theorem d_Model_correct_38 : decode b_Model_correct 38 = .ok (.iconst 2, 1) := by decide +kernel
theorem d_Model_correct_39 : decode b_Model_correct 39 = .ok (.invokevirtual 62, 3) := by decide +kernel
theorem d_Model_correct_42 : decode b_Model_correct 42 = .ok (.ireturn, 1) := by decide +kernel
theorem d_Model_correct_43 : decode b_Model_correct 43 = .ok (.aload_n 0, 1) := by decide +kernel
theorem d_Model_correct_44 : decode b_Model_correct 44 = .ok (.iload_n 1, 1) := by decide +kernel
theorem d_Model_correct_45 : decode b_Model_correct 45 = .ok (.iload_n 2, 1) := by decide +kernel
theorem d_Model_correct_46 : decode b_Model_correct 46 = .ok (.iconst 0, 1) := by decide +kernel
theorem d_Model_correct_47 : decode b_Model_correct 47 = .ok (.invokevirtual 237, 3) := by decide +kernel
theorem d_Model_correct_50 : decode b_Model_correct 50 = .ok (.ifCond .ne 6, 3) := by decide +kernel
theorem d_Model_correct_53 : decode b_Model_correct 53 = .ok (.bipush (-3), 2) := by decide +kernel
theorem d_Model_correct_55 : decode b_Model_correct 55 = .ok (.ireturn, 1) := by decide +kernel
theorem d_Model_correct_56 : decode b_Model_correct 56 = .ok (.aload_n 0, 1) := by decide +kernel
theorem d_Model_correct_57 : decode b_Model_correct 57 = .ok (.iload_n 2, 1) := by decide +kernel
theorem d_Model_correct_58 : decode b_Model_correct 58 = .ok (.invokevirtual 219, 3) := by decide +kernel
theorem d_Model_correct_61 : decode b_Model_correct 61 = .ok (.ifCond .eq 6, 3) := by decide +kernel
theorem d_Model_correct_64 : decode b_Model_correct 64 = .ok (.bipush (-4), 2) := by decide +kernel
theorem d_Model_correct_66 : decode b_Model_correct 66 = .ok (.ireturn, 1) := by decide +kernel
theorem d_Model_correct_67 : decode b_Model_correct 67 = .ok (.aload_n 0, 1) := by decide +kernel
theorem d_Model_correct_68 : decode b_Model_correct 68 = .ok (.iload_n 2, 1) := by decide +kernel
theorem d_Model_correct_69 : decode b_Model_correct 69 = .ok (.iconst 3, 1) := by decide +kernel
theorem d_Model_correct_70 : decode b_Model_correct 70 = .ok (.iload_n 3, 1) := by decide +kernel
theorem d_Model_correct_71 : decode b_Model_correct 71 = .ok (.invokevirtual 283, 3) := by decide +kernel
theorem d_Model_correct_74 : decode b_Model_correct 74 = .ok (.aload_n 0, 1) := by decide +kernel
theorem d_Model_correct_75 : decode b_Model_correct 75 = .ok (.iload_n 2, 1) := by decide +kernel
theorem d_Model_correct_76 : decode b_Model_correct 76 = .ok (.iconst 4, 1) := by decide +kernel
theorem d_Model_correct_77 : decode b_Model_correct 77 = .ok (.iload_n 1, 1) := by decide +kernel
theorem d_Model_correct_78 : decode b_Model_correct 78 = .ok (.invokevirtual 283, 3) := by decide +kernel
theorem d_Model_correct_81 : decode b_Model_correct 81 = .ok (.aload_n 0, 1) := by decide +kernel
theorem d_Model_correct_82 : decode b_Model_correct 82 = .ok (.iload_n 2, 1) := by decide +kernel
theorem d_Model_correct_83 : decode b_Model_correct 83 = .ok (.iconst 5, 1) := by decide +kernel
theorem d_Model_correct_84 : decode b_Model_correct 84 = .ok (.aload_n 0, 1) := by decide +kernel
theorem d_Model_correct_85 : decode b_Model_correct 85 = .ok (.getfield 7, 3) := by decide +kernel
theorem d_Model_correct_88 : decode b_Model_correct 88 = .ok (.bipush 8, 2) := by decide +kernel
theorem d_Model_correct_90 : decode b_Model_correct 90 = .ok (.iaload, 1) := by decide +kernel
theorem d_Model_correct_91 : decode b_Model_correct 91 = .ok (.invokevirtual 283, 3) := by decide +kernel
theorem d_Model_correct_94 : decode b_Model_correct 94 = .ok (.aload_n 0, 1) := by decide +kernel
theorem d_Model_correct_95 : decode b_Model_correct 95 = .ok (.iload_n 1, 1) := by decide +kernel
theorem d_Model_correct_96 : decode b_Model_correct 96 = .ok (.iload_n 2, 1) := by decide +kernel
theorem d_Model_correct_97 : decode b_Model_correct 97 = .ok (.invokevirtual 289, 3) := by decide +kernel
theorem d_Model_correct_100 : decode b_Model_correct 100 = .ok (.aload_n 0, 1) := by decide +kernel
theorem d_Model_correct_101 : decode b_Model_correct 101 = .ok (.iload_n 1, 1) := by decide +kernel
theorem d_Model_correct_102 : decode b_Model_correct 102 = .ok (.iload_n 2, 1) := by decide +kernel
theorem d_Model_correct_103 : decode b_Model_correct 103 = .ok (.invokevirtual 264, 3) := by decide +kernel
theorem d_Model_correct_106 : decode b_Model_correct 106 = .ok (.invokestatic 292, 3) := by decide +kernel
theorem d_Model_correct_109 : decode b_Model_correct 109 = .ok (.ireturn, 1) := by decide +kernel
def F_Model_correct (a0 : Int32) (a1 : Int32) (a2 : Int32) (σ : zSt) : Option (Int32 × zSt) :=
  (F_Model_isHouse a0 (zst σ 4 80 8 (0 : Int32))).bind fun r2 => if r2 = 0 then (bd2 (F_Model_fail (1 : Int32) (zst σ 4 80 8 (0 : Int32))) fun r4 σ5 => some (r4, σ5)) else ((F_Model_isNews a1 (zst σ 4 80 8 (0 : Int32))).bind fun r7 => if r7 = 0 then (bd2 (F_Model_fail (1 : Int32) (zst σ 4 80 8 (0 : Int32))) fun r33 σ34 => some (r33, σ34)) else ((F_Model_isBetween a2 (0 : Int32) (99 : Int32) (zst σ 4 80 8 (0 : Int32))).bind fun r9 => if r9 = 0 then (bd2 (F_Model_fail (2 : Int32) (zst σ 4 80 8 (0 : Int32))) fun r29 σ30 => some (r29, σ30)) else ((F_Model_knows a0 a1 (0 : Int32) (zst σ 4 80 8 (0 : Int32))).bind fun r11 => if r11 = 0 then some ((-3 : Int32), (zst σ 4 80 8 (0 : Int32))) else ((F_Model_isCorrected a1 (zst σ 4 80 8 (0 : Int32))).bind fun r13 => if r13 = 0 then ((F_Model_tellStory a1 (3 : Int32) a2 (zst σ 4 80 8 (0 : Int32))).bind fun σ15 => (F_Model_tellStory a1 (4 : Int32) a0 σ15).bind fun σ17 => (F_Model_tellStory a1 (5 : Int32) (σ17.1 4 81 8) σ17).bind fun σ19 => (F_Model_learn a0 a1 σ19).bind fun σ21 => (F_Model_owedBy a0 a1 σ21).bind fun r23 => (F_Model_size r23 σ21).bind fun r25 => some (r25, σ21)) else some ((-4 : Int32), (zst σ 4 80 8 (0 : Int32)))))))
set_option maxHeartbeats 4000000 in
set_option maxRecDepth 100000 in
theorem c_Model_correct {l : Launch} {G : zLA} (hm : zml G) {a0 : Int32} {a1 : Int32} {a2 : Int32} {σ : zSt} {r : Int32} {σ' : zSt} (hf : F_Model_correct a0 a1 a2 σ = some (r, σ')) : zM l G y_Model_correct (zws y_Model_correct b_Model_correct 4 (some .int)) rm_Model_correct [.ref (zad G 4 80), .int a0, .int a1, .int a2] σ (some (.int r)) σ' := by
  refine z_ofM (own := "VillageWavesModel") (lv := [(0, .ref (zad G 4 80)), (1, .int a0), (2, .int a1), (3, .int a2)]) (by decide +kernel) rfl rfl (Nat.le_of_ble_eq_true rfl) (fun p e s m args below meth c C => ?_)
  rw [F_Model_correct] at hf
  refine z_aload_n C d_Model_correct_0 0 rfl rfl ?_
  refine z_iconst C d_Model_correct_1 zki_0 ?_
  refine pf_Model_48 C (zm4 hm 80 rfl) rfl (Nat.le_of_ble_eq_true rfl) rfl d_Model_correct_2 ?_
  refine z_aload_n C d_Model_correct_5 0 rfl rfl ?_
  refine z_iload_n C d_Model_correct_6 1 rfl rfl ?_
  obtain ⟨r2, h1, hf⟩ := bd_s hf
  refine z_cVi C kl_Model_188 rfl (c_Model_isHouse hm h1) (zm4 hm 80 rfl) rfl rfl rfl (Nat.le_of_ble_eq_true rfl) ⟨(Nat.le_of_ble_eq_true rfl), (Nat.le_of_ble_eq_true rfl)⟩ ⟨(Nat.le_of_ble_eq_true rfl), (Nat.le_of_ble_eq_true rfl)⟩ d_Model_correct_7 ?_
  refine z_if_eq (tgt := 21) C d_Model_correct_10 rfl (fun h36 => ?_) (fun h36 => ?_)
  · have hf := iff_t hf h36
    refine z_aload_n C d_Model_correct_21 0 rfl rfl ?_
    refine z_iconst C d_Model_correct_22 zki_1 ?_
    obtain ⟨r4, σ5, h3, hf⟩ := bd2_s hf
    refine z_cVi C kl_Model_62 rfl (c_Model_fail hm h3) (zm4 hm 80 rfl) rfl rfl rfl (Nat.le_of_ble_eq_true rfl) ⟨(Nat.le_of_ble_eq_true rfl), (Nat.le_of_ble_eq_true rfl)⟩ ⟨(Nat.le_of_ble_eq_true rfl), (Nat.le_of_ble_eq_true rfl)⟩ d_Model_correct_23 ?_
    cases hf
    exact z_iret C rfl (Nat.le_of_ble_eq_true rfl) (Nat.le_of_ble_eq_true rfl) d_Model_correct_26
  · have hf := iff_f hf h36
    refine z_aload_n C d_Model_correct_13 0 rfl rfl ?_
    refine z_iload_n C d_Model_correct_14 2 rfl rfl ?_
    obtain ⟨r7, h6, hf⟩ := bd_s hf
    refine z_cVi C kl_Model_274 rfl (c_Model_isNews hm h6) (zm4 hm 80 rfl) rfl rfl rfl (Nat.le_of_ble_eq_true rfl) ⟨(Nat.le_of_ble_eq_true rfl), (Nat.le_of_ble_eq_true rfl)⟩ ⟨(Nat.le_of_ble_eq_true rfl), (Nat.le_of_ble_eq_true rfl)⟩ d_Model_correct_15 ?_
    refine z_if_ne (tgt := 27) C d_Model_correct_18 rfl (fun h35 => ?_) (fun h35 => ?_)
    · have hf := iff_f hf h35
      refine z_iload_n C d_Model_correct_27 3 rfl rfl ?_
      refine z_iconst C d_Model_correct_28 zki_0 ?_
      refine z_bipush C d_Model_correct_29 zkb_99 ?_
      obtain ⟨r9, h8, hf⟩ := bd_s hf
      refine z_cSi C kl_Model_51 (c_Model_isBetween h8) rfl rfl (Nat.le_of_ble_eq_true rfl) ⟨(Nat.le_of_ble_eq_true rfl), (Nat.le_of_ble_eq_true rfl)⟩ ⟨(Nat.le_of_ble_eq_true rfl), (Nat.le_of_ble_eq_true rfl)⟩ d_Model_correct_31 ?_
      refine z_if_ne (tgt := 43) C d_Model_correct_34 rfl (fun h31 => ?_) (fun h31 => ?_)
      · have hf := iff_f hf h31
        refine z_aload_n C d_Model_correct_43 0 rfl rfl ?_
        refine z_iload_n C d_Model_correct_44 1 rfl rfl ?_
        refine z_iload_n C d_Model_correct_45 2 rfl rfl ?_
        refine z_iconst C d_Model_correct_46 zki_0 ?_
        obtain ⟨r11, h10, hf⟩ := bd_s hf
        refine z_cVi C kl_Model_237 rfl (c_Model_knows hm h10) (zm4 hm 80 rfl) rfl rfl rfl (Nat.le_of_ble_eq_true rfl) ⟨(Nat.le_of_ble_eq_true rfl), (Nat.le_of_ble_eq_true rfl)⟩ ⟨(Nat.le_of_ble_eq_true rfl), (Nat.le_of_ble_eq_true rfl)⟩ d_Model_correct_47 ?_
        refine z_if_ne (tgt := 56) C d_Model_correct_50 rfl (fun h27 => ?_) (fun h27 => ?_)
        · have hf := iff_f hf h27
          refine z_aload_n C d_Model_correct_56 0 rfl rfl ?_
          refine z_iload_n C d_Model_correct_57 2 rfl rfl ?_
          obtain ⟨r13, h12, hf⟩ := bd_s hf
          refine z_cVi C kl_Model_219 rfl (c_Model_isCorrected hm h12) (zm4 hm 80 rfl) rfl rfl rfl (Nat.le_of_ble_eq_true rfl) ⟨(Nat.le_of_ble_eq_true rfl), (Nat.le_of_ble_eq_true rfl)⟩ ⟨(Nat.le_of_ble_eq_true rfl), (Nat.le_of_ble_eq_true rfl)⟩ d_Model_correct_58 ?_
          refine z_if_eq (tgt := 67) C d_Model_correct_61 rfl (fun h26 => ?_) (fun h26 => ?_)
          · have hf := iff_t hf h26
            refine z_aload_n C d_Model_correct_67 0 rfl rfl ?_
            refine z_iload_n C d_Model_correct_68 2 rfl rfl ?_
            refine z_iconst C d_Model_correct_69 zki_3 ?_
            refine z_iload_n C d_Model_correct_70 3 rfl rfl ?_
            obtain ⟨σ15, h14, hf⟩ := bd_s hf
            refine z_cVv C kl_Model_283 rfl (c_Model_tellStory hm h14) (zm4 hm 80 rfl) rfl rfl rfl (Nat.le_of_ble_eq_true rfl) ⟨(Nat.le_of_ble_eq_true rfl), (Nat.le_of_ble_eq_true rfl)⟩ ⟨(Nat.le_of_ble_eq_true rfl), (Nat.le_of_ble_eq_true rfl)⟩ d_Model_correct_71 ?_
            refine z_aload_n C d_Model_correct_74 0 rfl rfl ?_
            refine z_iload_n C d_Model_correct_75 2 rfl rfl ?_
            refine z_iconst C d_Model_correct_76 zki_4 ?_
            refine z_iload_n C d_Model_correct_77 1 rfl rfl ?_
            obtain ⟨σ17, h16, hf⟩ := bd_s hf
            refine z_cVv C kl_Model_283 rfl (c_Model_tellStory hm h16) (zm4 hm 80 rfl) rfl rfl rfl (Nat.le_of_ble_eq_true rfl) ⟨(Nat.le_of_ble_eq_true rfl), (Nat.le_of_ble_eq_true rfl)⟩ ⟨(Nat.le_of_ble_eq_true rfl), (Nat.le_of_ble_eq_true rfl)⟩ d_Model_correct_78 ?_
            refine z_aload_n C d_Model_correct_81 0 rfl rfl ?_
            refine z_iload_n C d_Model_correct_82 2 rfl rfl ?_
            refine z_iconst C d_Model_correct_83 zki_5 ?_
            refine z_aload_n C d_Model_correct_84 0 rfl rfl ?_
            refine gf_Model_7 C (zm4 hm 80 rfl) rfl rfl d_Model_correct_85 ?_
            refine z_bipush C d_Model_correct_88 zkb_8 ?_
            refine z_iald C (zm4 hm 81 rfl) rfl (inb_in (by decide)) zc_8 d_Model_correct_90 ?_
            obtain ⟨σ19, h18, hf⟩ := bd_s hf
            refine z_cVv C kl_Model_283 rfl (c_Model_tellStory hm h18) (zm4 hm 80 rfl) rfl rfl rfl (Nat.le_of_ble_eq_true rfl) ⟨(Nat.le_of_ble_eq_true rfl), (Nat.le_of_ble_eq_true rfl)⟩ ⟨(Nat.le_of_ble_eq_true rfl), (Nat.le_of_ble_eq_true rfl)⟩ d_Model_correct_91 ?_
            refine z_aload_n C d_Model_correct_94 0 rfl rfl ?_
            refine z_iload_n C d_Model_correct_95 1 rfl rfl ?_
            refine z_iload_n C d_Model_correct_96 2 rfl rfl ?_
            obtain ⟨σ21, h20, hf⟩ := bd_s hf
            refine z_cVv C kl_Model_289 rfl (c_Model_learn hm h20) (zm4 hm 80 rfl) rfl rfl rfl (Nat.le_of_ble_eq_true rfl) ⟨(Nat.le_of_ble_eq_true rfl), (Nat.le_of_ble_eq_true rfl)⟩ ⟨(Nat.le_of_ble_eq_true rfl), (Nat.le_of_ble_eq_true rfl)⟩ d_Model_correct_97 ?_
            refine z_aload_n C d_Model_correct_100 0 rfl rfl ?_
            refine z_iload_n C d_Model_correct_101 1 rfl rfl ?_
            refine z_iload_n C d_Model_correct_102 2 rfl rfl ?_
            obtain ⟨r23, h22, hf⟩ := bd_s hf
            refine z_cVi C kl_Model_264 rfl (c_Model_owedBy hm h22) (zm4 hm 80 rfl) rfl rfl rfl (Nat.le_of_ble_eq_true rfl) ⟨(Nat.le_of_ble_eq_true rfl), (Nat.le_of_ble_eq_true rfl)⟩ ⟨(Nat.le_of_ble_eq_true rfl), (Nat.le_of_ble_eq_true rfl)⟩ d_Model_correct_103 ?_
            obtain ⟨r25, h24, hf⟩ := bd_s hf
            refine z_cSi C kl_Model_292 (c_Model_size h24) rfl rfl (Nat.le_of_ble_eq_true rfl) ⟨(Nat.le_of_ble_eq_true rfl), (Nat.le_of_ble_eq_true rfl)⟩ ⟨(Nat.le_of_ble_eq_true rfl), (Nat.le_of_ble_eq_true rfl)⟩ d_Model_correct_106 ?_
            cases hf
            exact z_iret C rfl (Nat.le_of_ble_eq_true rfl) (Nat.le_of_ble_eq_true rfl) d_Model_correct_109
          · have hf := iff_f hf h26
            refine z_bipush C d_Model_correct_64 zkb_m4 ?_
            cases hf
            exact z_iret C rfl (Nat.le_of_ble_eq_true rfl) (Nat.le_of_ble_eq_true rfl) d_Model_correct_66
        · have hf := iff_t hf h27
          refine z_bipush C d_Model_correct_53 zkb_m3 ?_
          cases hf
          exact z_iret C rfl (Nat.le_of_ble_eq_true rfl) (Nat.le_of_ble_eq_true rfl) d_Model_correct_55
      · have hf := iff_t hf h31
        refine z_aload_n C d_Model_correct_37 0 rfl rfl ?_
        refine z_iconst C d_Model_correct_38 zki_2 ?_
        obtain ⟨r29, σ30, h28, hf⟩ := bd2_s hf
        refine z_cVi C kl_Model_62 rfl (c_Model_fail hm h28) (zm4 hm 80 rfl) rfl rfl rfl (Nat.le_of_ble_eq_true rfl) ⟨(Nat.le_of_ble_eq_true rfl), (Nat.le_of_ble_eq_true rfl)⟩ ⟨(Nat.le_of_ble_eq_true rfl), (Nat.le_of_ble_eq_true rfl)⟩ d_Model_correct_39 ?_
        cases hf
        exact z_iret C rfl (Nat.le_of_ble_eq_true rfl) (Nat.le_of_ble_eq_true rfl) d_Model_correct_42
    · have hf := iff_t hf h35
      refine z_aload_n C d_Model_correct_21 0 rfl rfl ?_
      refine z_iconst C d_Model_correct_22 zki_1 ?_
      obtain ⟨r33, σ34, h32, hf⟩ := bd2_s hf
      refine z_cVi C kl_Model_62 rfl (c_Model_fail hm h32) (zm4 hm 80 rfl) rfl rfl rfl (Nat.le_of_ble_eq_true rfl) ⟨(Nat.le_of_ble_eq_true rfl), (Nat.le_of_ble_eq_true rfl)⟩ ⟨(Nat.le_of_ble_eq_true rfl), (Nat.le_of_ble_eq_true rfl)⟩ d_Model_correct_23 ?_
      cases hf
      exact z_iret C rfl (Nat.le_of_ble_eq_true rfl) (Nat.le_of_ble_eq_true rfl) d_Model_correct_26
abbrev rm_Model_beginMinute : Room := { frames := 1, cells := 0, slots := 0, locals := 24 }
theorem d_Model_beginMinute_0 : decode b_Model_beginMinute 0 = .ok (.aload_n 0, 1) := by decide +kernel
theorem d_Model_beginMinute_1 : decode b_Model_beginMinute 1 = .ok (.getfield 7, 3) := by decide +kernel
theorem d_Model_beginMinute_4 : decode b_Model_beginMinute 4 = .ok (.bipush 8, 2) := by decide +kernel
theorem d_Model_beginMinute_6 : decode b_Model_beginMinute 6 = .ok (.iaload, 1) := by decide +kernel
theorem d_Model_beginMinute_7 : decode b_Model_beginMinute 7 = .ok (.ifCond .le 24, 3) := by decide +kernel
theorem d_Model_beginMinute_10 : decode b_Model_beginMinute 10 = .ok (.aload_n 0, 1) := by decide +kernel
theorem d_Model_beginMinute_11 : decode b_Model_beginMinute 11 = .ok (.getfield 7, 3) := by decide +kernel
theorem d_Model_beginMinute_14 : decode b_Model_beginMinute 14 = .ok (.bipush 8, 2) := by decide +kernel
theorem d_Model_beginMinute_16 : decode b_Model_beginMinute 16 = .ok (.iaload, 1) := by decide +kernel
theorem d_Model_beginMinute_17 : decode b_Model_beginMinute 17 = .ok (.aload_n 0, 1) := by decide +kernel
theorem d_Model_beginMinute_18 : decode b_Model_beginMinute 18 = .ok (.getfield 7, 3) := by decide +kernel
theorem d_Model_beginMinute_21 : decode b_Model_beginMinute 21 = .ok (.iconst 5, 1) := by decide +kernel
theorem d_Model_beginMinute_22 : decode b_Model_beginMinute 22 = .ok (.iaload, 1) := by decide +kernel
theorem d_Model_beginMinute_23 : decode b_Model_beginMinute 23 = .ok (.irem, 1) := by decide +kernel
theorem d_Model_beginMinute_24 : decode b_Model_beginMinute 24 = .ok (.ifCond .ne 7, 3) := by decide +kernel
theorem d_Model_beginMinute_27 : decode b_Model_beginMinute 27 = .ok (.iconst 1, 1) := by decide +kernel
theorem d_Model_beginMinute_28 : decode b_Model_beginMinute 28 = .ok (.goto 4, 3) := by decide +kernel
theorem d_Model_beginMinute_31 : decode b_Model_beginMinute 31 = .ok (.iconst 0, 1) := by decide +kernel
theorem d_Model_beginMinute_32 : decode b_Model_beginMinute 32 = .ok (.istore_n 1, 1) := by decide +kernel
theorem d_Model_beginMinute_33 : decode b_Model_beginMinute 33 = .ok (.iconst 0, 1) := by decide +kernel
theorem d_Model_beginMinute_34 : decode b_Model_beginMinute 34 = .ok (.istore_n 2, 1) := by decide +kernel
theorem d_Model_beginMinute_35 : decode b_Model_beginMinute 35 = .ok (.iload_n 2, 1) := by decide +kernel
theorem d_Model_beginMinute_36 : decode b_Model_beginMinute 36 = .ok (.aload_n 0, 1) := by decide +kernel
theorem d_Model_beginMinute_37 : decode b_Model_beginMinute 37 = .ok (.getfield 7, 3) := by decide +kernel
theorem d_Model_beginMinute_40 : decode b_Model_beginMinute 40 = .ok (.bipush 6, 2) := by decide +kernel
theorem d_Model_beginMinute_42 : decode b_Model_beginMinute 42 = .ok (.iaload, 1) := by decide +kernel
theorem d_Model_beginMinute_43 : decode b_Model_beginMinute 43 = .ok (.if_icmp .ge 46, 3) := by decide +kernel
theorem d_Model_beginMinute_46 : decode b_Model_beginMinute 46 = .ok (.iload_n 1, 1) := by decide +kernel
theorem d_Model_beginMinute_47 : decode b_Model_beginMinute 47 = .ok (.ifCond .eq 42, 3) := by decide +kernel
theorem d_Model_beginMinute_50 : decode b_Model_beginMinute 50 = .ok (.aload_n 0, 1) := by decide +kernel
theorem d_Model_beginMinute_51 : decode b_Model_beginMinute 51 = .ok (.iload_n 2, 1) := by decide +kernel
theorem d_Model_beginMinute_52 : decode b_Model_beginMinute 52 = .ok (.iconst 3, 1) := by decide +kernel
theorem d_Model_beginMinute_53 : decode b_Model_beginMinute 53 = .ok (.sipush 999, 3) := by decide +kernel
theorem d_Model_beginMinute_56 : decode b_Model_beginMinute 56 = .ok (.aload_n 0, 1) := by decide +kernel
theorem d_Model_beginMinute_57 : decode b_Model_beginMinute 57 = .ok (.iload_n 2, 1) := by decide +kernel
theorem d_Model_beginMinute_58 : decode b_Model_beginMinute 58 = .ok (.iconst 3, 1) := by decide +kernel
theorem d_Model_beginMinute_59 : decode b_Model_beginMinute 59 = .ok (.invokevirtual 191, 3) := by decide +kernel
theorem d_Model_beginMinute_62 : decode b_Model_beginMinute 62 = .ok (.aload_n 0, 1) := by decide +kernel
theorem d_Model_beginMinute_63 : decode b_Model_beginMinute 63 = .ok (.getfield 7, 3) := by decide +kernel
theorem d_Model_beginMinute_66 : decode b_Model_beginMinute 66 = .ok (.iconst 2, 1) := by decide +kernel
theorem d_Model_beginMinute_67 : decode b_Model_beginMinute 67 = .ok (.iaload, 1) := by decide +kernel
theorem d_Model_beginMinute_68 : decode b_Model_beginMinute 68 = .ok (.iadd, 1) := by decide +kernel
theorem d_Model_beginMinute_69 : decode b_Model_beginMinute 69 = .ok (.invokestatic 194, 3) := by decide +kernel
theorem d_Model_beginMinute_72 : decode b_Model_beginMinute 72 = .ok (.invokevirtual 140, 3) := by decide +kernel
theorem d_Model_beginMinute_75 : decode b_Model_beginMinute 75 = .ok (.aload_n 0, 1) := by decide +kernel
theorem d_Model_beginMinute_76 : decode b_Model_beginMinute 76 = .ok (.iload_n 2, 1) := by decide +kernel
theorem d_Model_beginMinute_77 : decode b_Model_beginMinute 77 = .ok (.bipush 7, 2) := by decide +kernel
theorem d_Model_beginMinute_79 : decode b_Model_beginMinute 79 = .ok (.iconst 0, 1) := by decide +kernel
theorem d_Model_beginMinute_80 : decode b_Model_beginMinute 80 = .ok (.invokevirtual 140, 3) := by decide +kernel
theorem d_Model_beginMinute_83 : decode b_Model_beginMinute 83 = .ok (.iinc 2 1, 3) := by decide +kernel
theorem d_Model_beginMinute_86 : decode b_Model_beginMinute 86 = .ok (.goto (-51), 3) := by decide +kernel
theorem d_Model_beginMinute_89 : decode b_Model_beginMinute 89 = .ok (.return_, 1) := by decide +kernel
def L_Model_beginMinute : Nat → Nat → Int32 → Int32 → zSt → Option (zSt)
  | 0, _, _, _, _ => none
  | n + 1, 0, x1, x2, σ => if (σ.1 4 81 6) ≤ x2 then some σ else (if x1 = 0 then some σ else ((F_Model_of x2 (3 : Int32) σ).bind fun r5 => (F_Model_put x2 (3 : Int32) (if (r5 + (σ.1 4 81 2)) < (999 : Int32) then (r5 + (σ.1 4 81 2)) else (999 : Int32)) σ).bind fun σ7 => (F_Model_put x2 (7 : Int32) (0 : Int32) σ7).bind fun σ9 => L_Model_beginMinute n 0 x1 (x2 + (1 : Int32)) σ9))
  | _ + 1, _, _, _, _ => none
theorem e_Model_beginMinute_0 (n : Nat) (x1 : Int32) (x2 : Int32) (σ : zSt) : L_Model_beginMinute (n + 1) 0 x1 x2 σ = (if (σ.1 4 81 6) ≤ x2 then some σ else (if x1 = 0 then some σ else ((F_Model_of x2 (3 : Int32) σ).bind fun r5 => (F_Model_put x2 (3 : Int32) (if (r5 + (σ.1 4 81 2)) < (999 : Int32) then (r5 + (σ.1 4 81 2)) else (999 : Int32)) σ).bind fun σ7 => (F_Model_put x2 (7 : Int32) (0 : Int32) σ7).bind fun σ9 => L_Model_beginMinute n 0 x1 (x2 + (1 : Int32)) σ9))) := rfl
set_option maxHeartbeats 4000000 in
set_option maxRecDepth 100000 in
theorem w_Model_beginMinute {l : Launch} {G : zLA} {p : Program} {e : Env} {s : State} {m : MethodId} {args : Array Value} {below : List Frame} {meth : Method} {c : Code} (C : zCx G p s m args meth c "VillageWavesModel" b_Model_beginMinute 3 none) (hm : zml G) {σ' : zSt} : ∀ n : Nat, (∀ (x1 : Int32) (x2 : Int32) (σ : zSt), L_Model_beginMinute n 0 x1 x2 σ = some σ' → zWV G p l e rm_Model_beginMinute s m args below meth c 3 0 0 (zQ G below args s rm_Model_beginMinute none σ') 35 [(0, .ref (zad G 4 80)), (1, .int x1), (2, .int x2)] [] σ) := by
  intro n
  induction n with
  | zero => exact fun _ _ _ hf => (by cases hf)
  | succ n ih =>
    refine ?_
    · intro x1 x2 σ hf
      rw [e_Model_beginMinute_0] at hf
      refine z_iload_n C d_Model_beginMinute_35 2 rfl rfl ?_
      refine z_aload_n C d_Model_beginMinute_36 0 rfl rfl ?_
      refine gf_Model_7 C (zm4 hm 80 rfl) rfl rfl d_Model_beginMinute_37 ?_
      refine z_bipush C d_Model_beginMinute_40 zkb_6 ?_
      refine z_iald C (zm4 hm 81 rfl) rfl (inb_in (by decide)) zc_6 d_Model_beginMinute_42 ?_
      refine z_icmp_ge (tgt := 89) C d_Model_beginMinute_43 rfl (fun h11 => ?_) (fun h11 => ?_)
      · have hf := iff_t hf h11
        cases hf
        exact z_vret C rfl (Nat.le_of_ble_eq_true rfl) (Nat.le_of_ble_eq_true rfl) d_Model_beginMinute_89
      · have hf := iff_f hf h11
        refine z_iload_n C d_Model_beginMinute_46 1 rfl rfl ?_
        refine z_if_eq (tgt := 89) C d_Model_beginMinute_47 rfl (fun h10 => ?_) (fun h10 => ?_)
        · have hf := iff_t hf h10
          cases hf
          exact z_vret C rfl (Nat.le_of_ble_eq_true rfl) (Nat.le_of_ble_eq_true rfl) d_Model_beginMinute_89
        · have hf := iff_f hf h10
          refine z_aload_n C d_Model_beginMinute_50 0 rfl rfl ?_
          refine z_iload_n C d_Model_beginMinute_51 2 rfl rfl ?_
          refine z_iconst C d_Model_beginMinute_52 zki_3 ?_
          refine z_sipush C d_Model_beginMinute_53 zks_999 ?_
          refine z_aload_n C d_Model_beginMinute_56 0 rfl rfl ?_
          refine z_iload_n C d_Model_beginMinute_57 2 rfl rfl ?_
          refine z_iconst C d_Model_beginMinute_58 zki_3 ?_
          obtain ⟨r5, h4, hf⟩ := bd_s hf
          refine z_cVi C kl_Model_191 rfl (c_Model_of hm h4) (zm4 hm 80 rfl) rfl rfl rfl (Nat.le_of_ble_eq_true rfl) ⟨(Nat.le_of_ble_eq_true rfl), (Nat.le_of_ble_eq_true rfl)⟩ ⟨(Nat.le_of_ble_eq_true rfl), (Nat.le_of_ble_eq_true rfl)⟩ d_Model_beginMinute_59 ?_
          refine z_aload_n C d_Model_beginMinute_62 0 rfl rfl ?_
          refine gf_Model_7 C (zm4 hm 80 rfl) rfl rfl d_Model_beginMinute_63 ?_
          refine z_iconst C d_Model_beginMinute_66 zki_2 ?_
          refine z_iald C (zm4 hm 81 rfl) rfl (inb_in (by decide)) zc_2 d_Model_beginMinute_67 ?_
          refine z_iadd C d_Model_beginMinute_68 ?_
          refine z_mmin C zq1496 rfl (Nat.le_of_ble_eq_true rfl) (Nat.le_of_ble_eq_true rfl) (Nat.le_of_ble_eq_true rfl) (Nat.le_of_ble_eq_true rfl) (Nat.le_of_ble_eq_true rfl) d_Model_beginMinute_69 ?_
          obtain ⟨σ7, h6, hf⟩ := bd_s hf
          refine z_cVv C kl_Model_140 rfl (c_Model_put hm h6) (zm4 hm 80 rfl) rfl rfl rfl (Nat.le_of_ble_eq_true rfl) ⟨(Nat.le_of_ble_eq_true rfl), (Nat.le_of_ble_eq_true rfl)⟩ ⟨(Nat.le_of_ble_eq_true rfl), (Nat.le_of_ble_eq_true rfl)⟩ d_Model_beginMinute_72 ?_
          refine z_aload_n C d_Model_beginMinute_75 0 rfl rfl ?_
          refine z_iload_n C d_Model_beginMinute_76 2 rfl rfl ?_
          refine z_bipush C d_Model_beginMinute_77 zkb_7 ?_
          refine z_iconst C d_Model_beginMinute_79 zki_0 ?_
          obtain ⟨σ9, h8, hf⟩ := bd_s hf
          refine z_cVv C kl_Model_140 rfl (c_Model_put hm h8) (zm4 hm 80 rfl) rfl rfl rfl (Nat.le_of_ble_eq_true rfl) ⟨(Nat.le_of_ble_eq_true rfl), (Nat.le_of_ble_eq_true rfl)⟩ ⟨(Nat.le_of_ble_eq_true rfl), (Nat.le_of_ble_eq_true rfl)⟩ d_Model_beginMinute_80 ?_
          refine z_iinc C d_Model_beginMinute_83 2 rfl zki_1 (by decide) ?_
          refine z_goto (tgt := 35) C d_Model_beginMinute_86 rfl ?_
          exact z_sub [1, 2, 0] rfl (ih _ _ _ hf)
def F_Model_beginMinute (σ : zSt) : Option (zSt) :=
  if (σ.1 4 81 8) ≤ 0 then L_Model_beginMinute zK 0 (0 : Int32) (0 : Int32) σ else (if ¬ (σ.1 4 81 5) = (0 : Int32) then if ((σ.1 4 81 8) - (σ.1 4 81 8) / (σ.1 4 81 5) * (σ.1 4 81 5)) = 0 then L_Model_beginMinute zK 0 (1 : Int32) (0 : Int32) σ else L_Model_beginMinute zK 0 (0 : Int32) (0 : Int32) σ else none)
set_option maxHeartbeats 4000000 in
set_option maxRecDepth 100000 in
theorem c_Model_beginMinute {l : Launch} {G : zLA} (hm : zml G) {σ : zSt} {σ' : zSt} (hf : F_Model_beginMinute σ = some σ') : zM l G y_Model_beginMinute (zws y_Model_beginMinute b_Model_beginMinute 3 none) rm_Model_beginMinute [.ref (zad G 4 80)] σ none σ' := by
  refine z_ofM (own := "VillageWavesModel") (lv := [(0, .ref (zad G 4 80))]) (by decide +kernel) rfl rfl (Nat.le_of_ble_eq_true rfl) (fun p e s m args below meth c C => ?_)
  rw [F_Model_beginMinute] at hf
  refine z_aload_n C d_Model_beginMinute_0 0 rfl rfl ?_
  refine gf_Model_7 C (zm4 hm 80 rfl) rfl rfl d_Model_beginMinute_1 ?_
  refine z_bipush C d_Model_beginMinute_4 zkb_8 ?_
  refine z_iald C (zm4 hm 81 rfl) rfl (inb_in (by decide)) zc_8 d_Model_beginMinute_6 ?_
  refine z_if_le (tgt := 31) C d_Model_beginMinute_7 rfl (fun h3 => ?_) (fun h3 => ?_)
  · have hf := iff_t hf h3
    refine z_iconst C d_Model_beginMinute_31 zki_0 ?_
    refine z_istore_n C d_Model_beginMinute_32 rfl (by decide) ?_
    refine z_iconst C d_Model_beginMinute_33 zki_0 ?_
    refine z_istore_n C d_Model_beginMinute_34 rfl (by decide) ?_
    exact z_sub [2, 1, 0] rfl ((w_Model_beginMinute C hm zK) _ _ _ hf)
  · have hf := iff_f hf h3
    refine z_aload_n C d_Model_beginMinute_10 0 rfl rfl ?_
    refine gf_Model_7 C (zm4 hm 80 rfl) rfl rfl d_Model_beginMinute_11 ?_
    refine z_bipush C d_Model_beginMinute_14 zkb_8 ?_
    refine z_iald C (zm4 hm 81 rfl) rfl (inb_in (by decide)) zc_8 d_Model_beginMinute_16 ?_
    refine z_aload_n C d_Model_beginMinute_17 0 rfl rfl ?_
    refine gf_Model_7 C (zm4 hm 80 rfl) rfl rfl d_Model_beginMinute_18 ?_
    refine z_iconst C d_Model_beginMinute_21 zki_5 ?_
    refine z_iald C (zm4 hm 81 rfl) rfl (inb_in (by decide)) zc_5 d_Model_beginMinute_22 ?_
    obtain ⟨h2, hf⟩ := iff_g hf
    refine z_irem C d_Model_beginMinute_23 h2 ?_
    refine z_if_ne (tgt := 31) C d_Model_beginMinute_24 rfl (fun h1 => ?_) (fun h1 => ?_)
    · have hf := iff_f hf h1
      refine z_iconst C d_Model_beginMinute_31 zki_0 ?_
      refine z_istore_n C d_Model_beginMinute_32 rfl (by decide) ?_
      refine z_iconst C d_Model_beginMinute_33 zki_0 ?_
      refine z_istore_n C d_Model_beginMinute_34 rfl (by decide) ?_
      exact z_sub [2, 1, 0] rfl ((w_Model_beginMinute C hm zK) _ _ _ hf)
    · have hf := iff_t hf h1
      refine z_iconst C d_Model_beginMinute_27 zki_1 ?_
      refine z_goto (tgt := 32) C d_Model_beginMinute_28 rfl ?_
      refine z_istore_n C d_Model_beginMinute_32 rfl (by decide) ?_
      refine z_iconst C d_Model_beginMinute_33 zki_0 ?_
      refine z_istore_n C d_Model_beginMinute_34 rfl (by decide) ?_
      exact z_sub [2, 1, 0] rfl ((w_Model_beginMinute C hm zK) _ _ _ hf)
abbrev rm_Model_isWishing : Room := { frames := 7, cells := 0, slots := 0, locals := 157 }
theorem d_Model_isWishing_0 : decode b_Model_isWishing 0 = .ok (.aload_n 0, 1) := by decide +kernel
theorem d_Model_isWishing_1 : decode b_Model_isWishing 1 = .ok (.iload_n 1, 1) := by decide +kernel
theorem d_Model_isWishing_2 : decode b_Model_isWishing 2 = .ok (.invokevirtual 206, 3) := by decide +kernel
theorem d_Model_isWishing_5 : decode b_Model_isWishing 5 = .ok (.ifCond .ne 47, 3) := by decide +kernel
theorem d_Model_isWishing_8 : decode b_Model_isWishing 8 = .ok (.aload_n 0, 1) := by decide +kernel
theorem d_Model_isWishing_9 : decode b_Model_isWishing 9 = .ok (.iload_n 1, 1) := by decide +kernel
theorem d_Model_isWishing_10 : decode b_Model_isWishing 10 = .ok (.iconst 3, 1) := by decide +kernel
theorem d_Model_isWishing_11 : decode b_Model_isWishing 11 = .ok (.invokevirtual 191, 3) := by decide +kernel
theorem d_Model_isWishing_14 : decode b_Model_isWishing 14 = .ok (.aload_n 0, 1) := by decide +kernel
theorem d_Model_isWishing_15 : decode b_Model_isWishing 15 = .ok (.getfield 7, 3) := by decide +kernel
theorem d_Model_isWishing_18 : decode b_Model_isWishing 18 = .ok (.iconst 0, 1) := by decide +kernel
theorem d_Model_isWishing_19 : decode b_Model_isWishing 19 = .ok (.iaload, 1) := by decide +kernel
theorem d_Model_isWishing_20 : decode b_Model_isWishing 20 = .ok (.if_icmp .lt 32, 3) := by decide +kernel
theorem d_Model_isWishing_23 : decode b_Model_isWishing 23 = .ok (.aload_n 0, 1) := by decide +kernel
theorem d_Model_isWishing_24 : decode b_Model_isWishing 24 = .ok (.iload_n 1, 1) := by decide +kernel
theorem d_Model_isWishing_25 : decode b_Model_isWishing 25 = .ok (.bipush 7, 2) := by decide +kernel
theorem d_Model_isWishing_27 : decode b_Model_isWishing 27 = .ok (.invokevirtual 191, 3) := by decide +kernel
theorem d_Model_isWishing_30 : decode b_Model_isWishing 30 = .ok (.aload_n 0, 1) := by decide +kernel
theorem d_Model_isWishing_31 : decode b_Model_isWishing 31 = .ok (.getfield 7, 3) := by decide +kernel
theorem d_Model_isWishing_34 : decode b_Model_isWishing 34 = .ok (.iconst 3, 1) := by decide +kernel
theorem d_Model_isWishing_35 : decode b_Model_isWishing 35 = .ok (.iaload, 1) := by decide +kernel
theorem d_Model_isWishing_36 : decode b_Model_isWishing 36 = .ok (.if_icmp .ge 16, 3) := by decide +kernel
theorem d_Model_isWishing_39 : decode b_Model_isWishing 39 = .ok (.aload_n 0, 1) := by decide +kernel
theorem d_Model_isWishing_40 : decode b_Model_isWishing 40 = .ok (.iload_n 1, 1) := by decide +kernel
theorem d_Model_isWishing_41 : decode b_Model_isWishing 41 = .ok (.invokevirtual 295, 3) := by decide +kernel
theorem d_Model_isWishing_44 : decode b_Model_isWishing 44 = .ok (.iconst (-1), 1) := by decide +kernel
theorem d_Model_isWishing_45 : decode b_Model_isWishing 45 = .ok (.if_icmp .eq 7, 3) := by decide +kernel
theorem d_Model_isWishing_48 : decode b_Model_isWishing 48 = .ok (.iconst 1, 1) := by decide +kernel
theorem d_Model_isWishing_49 : decode b_Model_isWishing 49 = .ok (.goto 4, 3) := by decide +kernel
theorem d_Model_isWishing_52 : decode b_Model_isWishing 52 = .ok (.iconst 0, 1) := by decide +kernel
theorem d_Model_isWishing_53 : decode b_Model_isWishing 53 = .ok (.ireturn, 1) := by decide +kernel
def F_Model_isWishing (a0 : Int32) (σ : zSt) : Option (Int32 × zSt) :=
  (F_Model_isQuiet a0 σ).bind fun r2 => if r2 = 0 then ((F_Model_of a0 (3 : Int32) σ).bind fun r4 => if r4 < (σ.1 4 81 0) then some ((0 : Int32), σ) else ((F_Model_of a0 (7 : Int32) σ).bind fun r6 => if (σ.1 4 81 3) ≤ r6 then some ((0 : Int32), σ) else (bd2 (F_Model_firstToSend a0 σ) fun r8 σ9 => if r8 = (-1 : Int32) then some ((0 : Int32), σ9) else some ((1 : Int32), σ9)))) else some ((0 : Int32), σ)
set_option maxHeartbeats 4000000 in
set_option maxRecDepth 100000 in
theorem c_Model_isWishing {l : Launch} {G : zLA} (hm : zml G) {a0 : Int32} {σ : zSt} {r : Int32} {σ' : zSt} (hf : F_Model_isWishing a0 σ = some (r, σ')) : zM l G y_Model_isWishing (zws y_Model_isWishing b_Model_isWishing 2 (some .boolean)) rm_Model_isWishing [.ref (zad G 4 80), .int a0] σ (some (.int r)) σ' := by
  refine z_ofM (own := "VillageWavesModel") (lv := [(0, .ref (zad G 4 80)), (1, .int a0)]) (by decide +kernel) rfl rfl (Nat.le_of_ble_eq_true rfl) (fun p e s m args below meth c C => ?_)
  rw [F_Model_isWishing] at hf
  refine z_aload_n C d_Model_isWishing_0 0 rfl rfl ?_
  refine z_iload_n C d_Model_isWishing_1 1 rfl rfl ?_
  obtain ⟨r2, h1, hf⟩ := bd_s hf
  refine z_cVi C kl_Model_206 rfl (c_Model_isQuiet hm h1) (zm4 hm 80 rfl) rfl rfl rfl (Nat.le_of_ble_eq_true rfl) ⟨(Nat.le_of_ble_eq_true rfl), (Nat.le_of_ble_eq_true rfl)⟩ ⟨(Nat.le_of_ble_eq_true rfl), (Nat.le_of_ble_eq_true rfl)⟩ d_Model_isWishing_2 ?_
  refine z_if_ne (tgt := 52) C d_Model_isWishing_5 rfl (fun h13 => ?_) (fun h13 => ?_)
  · have hf := iff_f hf h13
    refine z_iconst C d_Model_isWishing_52 zki_0 ?_
    cases hf
    exact z_zret C rfl rfl (Nat.le_of_ble_eq_true rfl) (Nat.le_of_ble_eq_true rfl) d_Model_isWishing_53
  · have hf := iff_t hf h13
    refine z_aload_n C d_Model_isWishing_8 0 rfl rfl ?_
    refine z_iload_n C d_Model_isWishing_9 1 rfl rfl ?_
    refine z_iconst C d_Model_isWishing_10 zki_3 ?_
    obtain ⟨r4, h3, hf⟩ := bd_s hf
    refine z_cVi C kl_Model_191 rfl (c_Model_of hm h3) (zm4 hm 80 rfl) rfl rfl rfl (Nat.le_of_ble_eq_true rfl) ⟨(Nat.le_of_ble_eq_true rfl), (Nat.le_of_ble_eq_true rfl)⟩ ⟨(Nat.le_of_ble_eq_true rfl), (Nat.le_of_ble_eq_true rfl)⟩ d_Model_isWishing_11 ?_
    refine z_aload_n C d_Model_isWishing_14 0 rfl rfl ?_
    refine gf_Model_7 C (zm4 hm 80 rfl) rfl rfl d_Model_isWishing_15 ?_
    refine z_iconst C d_Model_isWishing_18 zki_0 ?_
    refine z_iald C (zm4 hm 81 rfl) rfl (inb_in (by decide)) zc_0 d_Model_isWishing_19 ?_
    refine z_icmp_lt (tgt := 52) C d_Model_isWishing_20 rfl (fun h12 => ?_) (fun h12 => ?_)
    · have hf := iff_t hf h12
      refine z_iconst C d_Model_isWishing_52 zki_0 ?_
      cases hf
      exact z_zret C rfl rfl (Nat.le_of_ble_eq_true rfl) (Nat.le_of_ble_eq_true rfl) d_Model_isWishing_53
    · have hf := iff_f hf h12
      refine z_aload_n C d_Model_isWishing_23 0 rfl rfl ?_
      refine z_iload_n C d_Model_isWishing_24 1 rfl rfl ?_
      refine z_bipush C d_Model_isWishing_25 zkb_7 ?_
      obtain ⟨r6, h5, hf⟩ := bd_s hf
      refine z_cVi C kl_Model_191 rfl (c_Model_of hm h5) (zm4 hm 80 rfl) rfl rfl rfl (Nat.le_of_ble_eq_true rfl) ⟨(Nat.le_of_ble_eq_true rfl), (Nat.le_of_ble_eq_true rfl)⟩ ⟨(Nat.le_of_ble_eq_true rfl), (Nat.le_of_ble_eq_true rfl)⟩ d_Model_isWishing_27 ?_
      refine z_aload_n C d_Model_isWishing_30 0 rfl rfl ?_
      refine gf_Model_7 C (zm4 hm 80 rfl) rfl rfl d_Model_isWishing_31 ?_
      refine z_iconst C d_Model_isWishing_34 zki_3 ?_
      refine z_iald C (zm4 hm 81 rfl) rfl (inb_in (by decide)) zc_3 d_Model_isWishing_35 ?_
      refine z_icmp_ge (tgt := 52) C d_Model_isWishing_36 rfl (fun h11 => ?_) (fun h11 => ?_)
      · have hf := iff_t hf h11
        refine z_iconst C d_Model_isWishing_52 zki_0 ?_
        cases hf
        exact z_zret C rfl rfl (Nat.le_of_ble_eq_true rfl) (Nat.le_of_ble_eq_true rfl) d_Model_isWishing_53
      · have hf := iff_f hf h11
        refine z_aload_n C d_Model_isWishing_39 0 rfl rfl ?_
        refine z_iload_n C d_Model_isWishing_40 1 rfl rfl ?_
        obtain ⟨r8, σ9, h7, hf⟩ := bd2_s hf
        refine z_cVi C kl_Model_295 rfl (c_Model_firstToSend hm h7) (zm4 hm 80 rfl) rfl rfl rfl (Nat.le_of_ble_eq_true rfl) ⟨(Nat.le_of_ble_eq_true rfl), (Nat.le_of_ble_eq_true rfl)⟩ ⟨(Nat.le_of_ble_eq_true rfl), (Nat.le_of_ble_eq_true rfl)⟩ d_Model_isWishing_41 ?_
        refine z_iconst C d_Model_isWishing_44 zki_m1 ?_
        refine z_icmp_eq (tgt := 52) C d_Model_isWishing_45 rfl (fun h10 => ?_) (fun h10 => ?_)
        · have hf := iff_t hf h10
          refine z_iconst C d_Model_isWishing_52 zki_0 ?_
          cases hf
          exact z_zret C rfl rfl (Nat.le_of_ble_eq_true rfl) (Nat.le_of_ble_eq_true rfl) d_Model_isWishing_53
        · have hf := iff_f hf h10
          refine z_iconst C d_Model_isWishing_48 zki_1 ?_
          refine z_goto (tgt := 53) C d_Model_isWishing_49 rfl ?_
          cases hf
          exact z_zret C rfl rfl (Nat.le_of_ble_eq_true rfl) (Nat.le_of_ble_eq_true rfl) d_Model_isWishing_53
abbrev rm_Model_wishing : Room := { frames := 8, cells := 0, slots := 0, locals := 178 }
theorem d_Model_wishing_0 : decode b_Model_wishing 0 = .ok (.iconst 0, 1) := by decide +kernel
theorem d_Model_wishing_1 : decode b_Model_wishing 1 = .ok (.istore_n 1, 1) := by decide +kernel
theorem d_Model_wishing_2 : decode b_Model_wishing 2 = .ok (.iconst 0, 1) := by decide +kernel
theorem d_Model_wishing_3 : decode b_Model_wishing 3 = .ok (.istore_n 2, 1) := by decide +kernel
theorem d_Model_wishing_4 : decode b_Model_wishing 4 = .ok (.iload_n 2, 1) := by decide +kernel
theorem d_Model_wishing_5 : decode b_Model_wishing 5 = .ok (.aload_n 0, 1) := by decide +kernel
theorem d_Model_wishing_6 : decode b_Model_wishing 6 = .ok (.getfield 7, 3) := by decide +kernel
theorem d_Model_wishing_9 : decode b_Model_wishing 9 = .ok (.bipush 6, 2) := by decide +kernel
theorem d_Model_wishing_11 : decode b_Model_wishing 11 = .ok (.iaload, 1) := by decide +kernel
theorem d_Model_wishing_12 : decode b_Model_wishing 12 = .ok (.if_icmp .ge 27, 3) := by decide +kernel
theorem d_Model_wishing_15 : decode b_Model_wishing 15 = .ok (.iload_n 1, 1) := by decide +kernel
theorem d_Model_wishing_16 : decode b_Model_wishing 16 = .ok (.aload_n 0, 1) := by decide +kernel
theorem d_Model_wishing_17 : decode b_Model_wishing 17 = .ok (.iload_n 2, 1) := by decide +kernel
theorem d_Model_wishing_18 : decode b_Model_wishing 18 = .ok (.invokevirtual 298, 3) := by decide +kernel
theorem d_Model_wishing_21 : decode b_Model_wishing 21 = .ok (.ifCond .eq 9, 3) := by decide +kernel
theorem d_Model_wishing_24 : decode b_Model_wishing 24 = .ok (.iconst 1, 1) := by decide +kernel
theorem d_Model_wishing_25 : decode b_Model_wishing 25 = .ok (.iload_n 2, 1) := by decide +kernel
theorem d_Model_wishing_26 : decode b_Model_wishing 26 = .ok (.ishl, 1) := by decide +kernel
theorem d_Model_wishing_27 : decode b_Model_wishing 27 = .ok (.goto 4, 3) := by decide +kernel
theorem d_Model_wishing_30 : decode b_Model_wishing 30 = .ok (.iconst 0, 1) := by decide +kernel
theorem d_Model_wishing_31 : decode b_Model_wishing 31 = .ok (.iadd, 1) := by decide +kernel
theorem d_Model_wishing_32 : decode b_Model_wishing 32 = .ok (.istore_n 1, 1) := by decide +kernel
theorem d_Model_wishing_33 : decode b_Model_wishing 33 = .ok (.iinc 2 1, 3) := by decide +kernel
theorem d_Model_wishing_36 : decode b_Model_wishing 36 = .ok (.goto (-32), 3) := by decide +kernel
theorem d_Model_wishing_39 : decode b_Model_wishing 39 = .ok (.iload_n 1, 1) := by decide +kernel
theorem d_Model_wishing_40 : decode b_Model_wishing 40 = .ok (.ireturn, 1) := by decide +kernel
def L_Model_wishing : Nat → Nat → Int32 → Int32 → zSt → Option (Int32 × zSt)
  | 0, _, _, _, _ => none
  | n + 1, 0, x1, x2, σ => if (σ.1 4 81 6) ≤ x2 then some (x1, σ) else (bd2 (F_Model_isWishing x2 σ) fun r2 σ3 => if r2 = 0 then L_Model_wishing n 0 (x1 + (0 : Int32)) (x2 + (1 : Int32)) σ3 else L_Model_wishing n 0 (x1 + ((1 : Int32) <<< (x2 &&& 31))) (x2 + (1 : Int32)) σ3)
  | _ + 1, _, _, _, _ => none
theorem e_Model_wishing_0 (n : Nat) (x1 : Int32) (x2 : Int32) (σ : zSt) : L_Model_wishing (n + 1) 0 x1 x2 σ = (if (σ.1 4 81 6) ≤ x2 then some (x1, σ) else (bd2 (F_Model_isWishing x2 σ) fun r2 σ3 => if r2 = 0 then L_Model_wishing n 0 (x1 + (0 : Int32)) (x2 + (1 : Int32)) σ3 else L_Model_wishing n 0 (x1 + ((1 : Int32) <<< (x2 &&& 31))) (x2 + (1 : Int32)) σ3)) := rfl
set_option maxHeartbeats 4000000 in
set_option maxRecDepth 100000 in
theorem w_Model_wishing {l : Launch} {G : zLA} {p : Program} {e : Env} {s : State} {m : MethodId} {args : Array Value} {below : List Frame} {meth : Method} {c : Code} (C : zCx G p s m args meth c "VillageWavesModel" b_Model_wishing 3 (some .int)) (hm : zml G) {r : Int32} {σ' : zSt} : ∀ n : Nat, (∀ (x1 : Int32) (x2 : Int32) (σ : zSt), L_Model_wishing n 0 x1 x2 σ = some (r, σ') → zWV G p l e rm_Model_wishing s m args below meth c 3 0 0 (zQ G below args s rm_Model_wishing (some (.int r)) σ') 4 [(0, .ref (zad G 4 80)), (1, .int x1), (2, .int x2)] [] σ) := by
  intro n
  induction n with
  | zero => exact fun _ _ _ hf => (by cases hf)
  | succ n ih =>
    refine ?_
    · intro x1 x2 σ hf
      rw [e_Model_wishing_0] at hf
      refine z_iload_n C d_Model_wishing_4 2 rfl rfl ?_
      refine z_aload_n C d_Model_wishing_5 0 rfl rfl ?_
      refine gf_Model_7 C (zm4 hm 80 rfl) rfl rfl d_Model_wishing_6 ?_
      refine z_bipush C d_Model_wishing_9 zkb_6 ?_
      refine z_iald C (zm4 hm 81 rfl) rfl (inb_in (by decide)) zc_6 d_Model_wishing_11 ?_
      refine z_icmp_ge (tgt := 39) C d_Model_wishing_12 rfl (fun h5 => ?_) (fun h5 => ?_)
      · have hf := iff_t hf h5
        refine z_iload_n C d_Model_wishing_39 1 rfl rfl ?_
        cases hf
        exact z_iret C rfl (Nat.le_of_ble_eq_true rfl) (Nat.le_of_ble_eq_true rfl) d_Model_wishing_40
      · have hf := iff_f hf h5
        refine z_iload_n C d_Model_wishing_15 1 rfl rfl ?_
        refine z_aload_n C d_Model_wishing_16 0 rfl rfl ?_
        refine z_iload_n C d_Model_wishing_17 2 rfl rfl ?_
        obtain ⟨r2, σ3, h1, hf⟩ := bd2_s hf
        refine z_cVi C kl_Model_298 rfl (c_Model_isWishing hm h1) (zm4 hm 80 rfl) rfl rfl rfl (Nat.le_of_ble_eq_true rfl) ⟨(Nat.le_of_ble_eq_true rfl), (Nat.le_of_ble_eq_true rfl)⟩ ⟨(Nat.le_of_ble_eq_true rfl), (Nat.le_of_ble_eq_true rfl)⟩ d_Model_wishing_18 ?_
        refine z_if_eq (tgt := 30) C d_Model_wishing_21 rfl (fun h4 => ?_) (fun h4 => ?_)
        · have hf := iff_t hf h4
          refine z_iconst C d_Model_wishing_30 zki_0 ?_
          refine z_iadd C d_Model_wishing_31 ?_
          refine z_istore_n C d_Model_wishing_32 rfl (by decide) ?_
          refine z_iinc C d_Model_wishing_33 2 rfl zki_1 (by decide) ?_
          refine z_goto (tgt := 4) C d_Model_wishing_36 rfl ?_
          exact z_sub [2, 1, 0] rfl (ih _ _ _ hf)
        · have hf := iff_f hf h4
          refine z_iconst C d_Model_wishing_24 zki_1 ?_
          refine z_iload_n C d_Model_wishing_25 2 rfl rfl ?_
          refine z_ishl C d_Model_wishing_26 ?_
          refine z_goto (tgt := 31) C d_Model_wishing_27 rfl ?_
          refine z_iadd C d_Model_wishing_31 ?_
          refine z_istore_n C d_Model_wishing_32 rfl (by decide) ?_
          refine z_iinc C d_Model_wishing_33 2 rfl zki_1 (by decide) ?_
          refine z_goto (tgt := 4) C d_Model_wishing_36 rfl ?_
          exact z_sub [2, 1, 0] rfl (ih _ _ _ hf)
def F_Model_wishing (σ : zSt) : Option (Int32 × zSt) :=
  L_Model_wishing zK 0 (0 : Int32) (0 : Int32) σ
set_option maxHeartbeats 4000000 in
set_option maxRecDepth 100000 in
theorem c_Model_wishing {l : Launch} {G : zLA} (hm : zml G) {σ : zSt} {r : Int32} {σ' : zSt} (hf : F_Model_wishing σ = some (r, σ')) : zM l G y_Model_wishing (zws y_Model_wishing b_Model_wishing 3 (some .int)) rm_Model_wishing [.ref (zad G 4 80)] σ (some (.int r)) σ' := by
  refine z_ofM (own := "VillageWavesModel") (lv := [(0, .ref (zad G 4 80))]) (by decide +kernel) rfl rfl (Nat.le_of_ble_eq_true rfl) (fun p e s m args below meth c C => ?_)
  rw [F_Model_wishing] at hf
  refine z_iconst C d_Model_wishing_0 zki_0 ?_
  refine z_istore_n C d_Model_wishing_1 rfl (by decide) ?_
  refine z_iconst C d_Model_wishing_2 zki_0 ?_
  refine z_istore_n C d_Model_wishing_3 rfl (by decide) ?_
  exact z_sub [2, 1, 0] rfl ((w_Model_wishing C hm zK) _ _ _ hf)
abbrev rm_Model_shares : Room := { frames := 1, cells := 0, slots := 0, locals := 22 }
theorem d_Model_shares_0 : decode b_Model_shares 0 = .ok (.iconst 0, 1) := by decide +kernel
theorem d_Model_shares_1 : decode b_Model_shares 1 = .ok (.istore_n 2, 1) := by decide +kernel
theorem d_Model_shares_2 : decode b_Model_shares 2 = .ok (.iconst 0, 1) := by decide +kernel
theorem d_Model_shares_3 : decode b_Model_shares 3 = .ok (.istore_n 3, 1) := by decide +kernel
theorem d_Model_shares_4 : decode b_Model_shares 4 = .ok (.iload_n 3, 1) := by decide +kernel
theorem d_Model_shares_5 : decode b_Model_shares 5 = .ok (.aload_n 0, 1) := by decide +kernel
theorem d_Model_shares_6 : decode b_Model_shares 6 = .ok (.getfield 7, 3) := by decide +kernel
theorem d_Model_shares_9 : decode b_Model_shares 9 = .ok (.bipush 6, 2) := by decide +kernel
theorem d_Model_shares_11 : decode b_Model_shares 11 = .ok (.iaload, 1) := by decide +kernel
theorem d_Model_shares_12 : decode b_Model_shares 12 = .ok (.if_icmp .ge 24, 3) := by decide +kernel
theorem d_Model_shares_15 : decode b_Model_shares 15 = .ok (.iload_n 2, 1) := by decide +kernel
theorem d_Model_shares_16 : decode b_Model_shares 16 = .ok (.iload_n 1, 1) := by decide +kernel
theorem d_Model_shares_17 : decode b_Model_shares 17 = .ok (.iload_n 3, 1) := by decide +kernel
theorem d_Model_shares_18 : decode b_Model_shares 18 = .ok (.ishr, 1) := by decide +kernel
theorem d_Model_shares_19 : decode b_Model_shares 19 = .ok (.iconst 1, 1) := by decide +kernel
theorem d_Model_shares_20 : decode b_Model_shares 20 = .ok (.iand, 1) := by decide +kernel
theorem d_Model_shares_21 : decode b_Model_shares 21 = .ok (.aload_n 0, 1) := by decide +kernel
theorem d_Model_shares_22 : decode b_Model_shares 22 = .ok (.iload_n 3, 1) := by decide +kernel
theorem d_Model_shares_23 : decode b_Model_shares 23 = .ok (.iconst 4, 1) := by decide +kernel
theorem d_Model_shares_24 : decode b_Model_shares 24 = .ok (.invokevirtual 191, 3) := by decide +kernel
theorem d_Model_shares_27 : decode b_Model_shares 27 = .ok (.imul, 1) := by decide +kernel
theorem d_Model_shares_28 : decode b_Model_shares 28 = .ok (.iadd, 1) := by decide +kernel
theorem d_Model_shares_29 : decode b_Model_shares 29 = .ok (.istore_n 2, 1) := by decide +kernel
theorem d_Model_shares_30 : decode b_Model_shares 30 = .ok (.iinc 3 1, 3) := by decide +kernel
theorem d_Model_shares_33 : decode b_Model_shares 33 = .ok (.goto (-29), 3) := by decide +kernel
theorem d_Model_shares_36 : decode b_Model_shares 36 = .ok (.iload_n 2, 1) := by decide +kernel
theorem d_Model_shares_37 : decode b_Model_shares 37 = .ok (.ireturn, 1) := by decide +kernel
def L_Model_shares (σ : zSt) : Nat → Nat → Int32 → Int32 → Int32 → Option (Int32)
  | 0, _, _, _, _ => none
  | n + 1, 0, x1, x2, x3 => if (σ.1 4 81 6) ≤ x3 then some x2 else ((F_Model_of x3 (4 : Int32) σ).bind fun r2 => L_Model_shares σ n 0 x1 (x2 + (((x1 >>> (x3 &&& 31)) &&& (1 : Int32)) * r2)) (x3 + (1 : Int32)))
  | _ + 1, _, _, _, _ => none
theorem e_Model_shares_0 (σ : zSt) (n : Nat) (x1 : Int32) (x2 : Int32) (x3 : Int32) : L_Model_shares σ (n + 1) 0 x1 x2 x3 = (if (σ.1 4 81 6) ≤ x3 then some x2 else ((F_Model_of x3 (4 : Int32) σ).bind fun r2 => L_Model_shares σ n 0 x1 (x2 + (((x1 >>> (x3 &&& 31)) &&& (1 : Int32)) * r2)) (x3 + (1 : Int32)))) := rfl
set_option maxHeartbeats 4000000 in
set_option maxRecDepth 100000 in
theorem w_Model_shares {l : Launch} {G : zLA} {p : Program} {e : Env} {s : State} {m : MethodId} {args : Array Value} {below : List Frame} {meth : Method} {c : Code} (C : zCx G p s m args meth c "VillageWavesModel" b_Model_shares 4 (some .int)) (hm : zml G) {σ : zSt} {r : Int32} : ∀ n : Nat, (∀ (x1 : Int32) (x2 : Int32) (x3 : Int32), L_Model_shares σ n 0 x1 x2 x3 = some r → zWV G p l e rm_Model_shares s m args below meth c 4 0 0 (zQ G below args s rm_Model_shares (some (.int r)) σ) 4 [(0, .ref (zad G 4 80)), (1, .int x1), (2, .int x2), (3, .int x3)] [] σ) := by
  intro n
  induction n with
  | zero => exact fun _ _ _ hf => (by cases hf)
  | succ n ih =>
    refine ?_
    · intro x1 x2 x3 hf
      rw [e_Model_shares_0] at hf
      refine z_iload_n C d_Model_shares_4 3 rfl rfl ?_
      refine z_aload_n C d_Model_shares_5 0 rfl rfl ?_
      refine gf_Model_7 C (zm4 hm 80 rfl) rfl rfl d_Model_shares_6 ?_
      refine z_bipush C d_Model_shares_9 zkb_6 ?_
      refine z_iald C (zm4 hm 81 rfl) rfl (inb_in (by decide)) zc_6 d_Model_shares_11 ?_
      refine z_icmp_ge (tgt := 36) C d_Model_shares_12 rfl (fun h3 => ?_) (fun h3 => ?_)
      · have hf := iff_t hf h3
        refine z_iload_n C d_Model_shares_36 2 rfl rfl ?_
        cases hf
        exact z_iret C rfl (Nat.le_of_ble_eq_true rfl) (Nat.le_of_ble_eq_true rfl) d_Model_shares_37
      · have hf := iff_f hf h3
        refine z_iload_n C d_Model_shares_15 2 rfl rfl ?_
        refine z_iload_n C d_Model_shares_16 1 rfl rfl ?_
        refine z_iload_n C d_Model_shares_17 3 rfl rfl ?_
        refine z_ishr C d_Model_shares_18 ?_
        refine z_iconst C d_Model_shares_19 zki_1 ?_
        refine z_iand C d_Model_shares_20 ?_
        refine z_aload_n C d_Model_shares_21 0 rfl rfl ?_
        refine z_iload_n C d_Model_shares_22 3 rfl rfl ?_
        refine z_iconst C d_Model_shares_23 zki_4 ?_
        obtain ⟨r2, h1, hf⟩ := bd_s hf
        refine z_cVi C kl_Model_191 rfl (c_Model_of hm h1) (zm4 hm 80 rfl) rfl rfl rfl (Nat.le_of_ble_eq_true rfl) ⟨(Nat.le_of_ble_eq_true rfl), (Nat.le_of_ble_eq_true rfl)⟩ ⟨(Nat.le_of_ble_eq_true rfl), (Nat.le_of_ble_eq_true rfl)⟩ d_Model_shares_24 ?_
        refine z_imul C d_Model_shares_27 ?_
        refine z_iadd C d_Model_shares_28 ?_
        refine z_istore_n C d_Model_shares_29 rfl (by decide) ?_
        refine z_iinc C d_Model_shares_30 3 rfl zki_1 (by decide) ?_
        refine z_goto (tgt := 4) C d_Model_shares_33 rfl ?_
        exact z_sub [2, 3, 1, 0] rfl (ih _ _ _ hf)
def F_Model_shares (a0 : Int32) (σ : zSt) : Option (Int32) :=
  L_Model_shares σ zK 0 a0 (0 : Int32) (0 : Int32)
set_option maxHeartbeats 4000000 in
set_option maxRecDepth 100000 in
theorem c_Model_shares {l : Launch} {G : zLA} (hm : zml G) {a0 : Int32} {σ : zSt} {r : Int32} (hf : F_Model_shares a0 σ = some r) : zM l G y_Model_shares (zws y_Model_shares b_Model_shares 4 (some .int)) rm_Model_shares [.ref (zad G 4 80), .int a0] σ (some (.int r)) σ := by
  refine z_ofM (own := "VillageWavesModel") (lv := [(0, .ref (zad G 4 80)), (1, .int a0)]) (by decide +kernel) rfl rfl (Nat.le_of_ble_eq_true rfl) (fun p e s m args below meth c C => ?_)
  rw [F_Model_shares] at hf
  refine z_iconst C d_Model_shares_0 zki_0 ?_
  refine z_istore_n C d_Model_shares_1 rfl (by decide) ?_
  refine z_iconst C d_Model_shares_2 zki_0 ?_
  refine z_istore_n C d_Model_shares_3 rfl (by decide) ?_
  exact z_sub [2, 3, 1, 0] rfl ((w_Model_shares C hm zK) _ _ _ hf)
abbrev rm_Model_draw : Room := { frames := 0, cells := 0, slots := 0, locals := 0 }
theorem d_Model_draw_0 : decode b_Model_draw 0 = .ok (.aload_n 0, 1) := by decide +kernel
theorem d_Model_draw_1 : decode b_Model_draw 1 = .ok (.getfield 7, 3) := by decide +kernel
theorem d_Model_draw_4 : decode b_Model_draw 4 = .ok (.bipush 9, 2) := by decide +kernel
theorem d_Model_draw_6 : decode b_Model_draw 6 = .ok (.ldc2_w 301, 3) := by decide +kernel
theorem d_Model_draw_9 : decode b_Model_draw 9 = .ok (.aload_n 0, 1) := by decide +kernel
theorem d_Model_draw_10 : decode b_Model_draw 10 = .ok (.getfield 7, 3) := by decide +kernel
theorem d_Model_draw_13 : decode b_Model_draw 13 = .ok (.bipush 9, 2) := by decide +kernel
theorem d_Model_draw_15 : decode b_Model_draw 15 = .ok (.iaload, 1) := by decide +kernel
theorem d_Model_draw_16 : decode b_Model_draw 16 = .ok (.i2l, 1) := by decide +kernel
theorem d_Model_draw_17 : decode b_Model_draw 17 = .ok (.lmul, 1) := by decide +kernel
theorem d_Model_draw_18 : decode b_Model_draw 18 = .ok (.ldc2_w 303, 3) := by decide +kernel
theorem d_Model_draw_21 : decode b_Model_draw 21 = .ok (.ladd, 1) := by decide +kernel
theorem d_Model_draw_22 : decode b_Model_draw 22 = .ok (.ldc2_w 305, 3) := by decide +kernel
theorem d_Model_draw_25 : decode b_Model_draw 25 = .ok (.lrem, 1) := by decide +kernel
theorem d_Model_draw_26 : decode b_Model_draw 26 = .ok (.l2i, 1) := by decide +kernel
theorem d_Model_draw_27 : decode b_Model_draw 27 = .ok (.iastore, 1) := by decide +kernel
theorem d_Model_draw_28 : decode b_Model_draw 28 = .ok (.aload_n 0, 1) := by decide +kernel
theorem d_Model_draw_29 : decode b_Model_draw 29 = .ok (.getfield 7, 3) := by decide +kernel
theorem d_Model_draw_32 : decode b_Model_draw 32 = .ok (.bipush 9, 2) := by decide +kernel
theorem d_Model_draw_34 : decode b_Model_draw 34 = .ok (.iaload, 1) := by decide +kernel
theorem d_Model_draw_35 : decode b_Model_draw 35 = .ok (.iload_n 1, 1) := by decide +kernel
theorem d_Model_draw_36 : decode b_Model_draw 36 = .ok (.irem, 1) := by decide +kernel
theorem d_Model_draw_37 : decode b_Model_draw 37 = .ok (.ireturn, 1) := by decide +kernel
def F_Model_draw (a0 : Int32) (σ : zSt) : Option (Int32 × zSt) :=
  if ¬ a0 = (0 : Int32) then some ((((zst σ 4 81 9 (((((1103 : Int64) * (σ.1 4 81 9).toInt64) + (12345 : Int64)) - (((1103 : Int64) * (σ.1 4 81 9).toInt64) + (12345 : Int64)) / (1000003 : Int64) * (1000003 : Int64)).toInt32)).1 4 81 9) - ((zst σ 4 81 9 (((((1103 : Int64) * (σ.1 4 81 9).toInt64) + (12345 : Int64)) - (((1103 : Int64) * (σ.1 4 81 9).toInt64) + (12345 : Int64)) / (1000003 : Int64) * (1000003 : Int64)).toInt32)).1 4 81 9) / a0 * a0), (zst σ 4 81 9 (((((1103 : Int64) * (σ.1 4 81 9).toInt64) + (12345 : Int64)) - (((1103 : Int64) * (σ.1 4 81 9).toInt64) + (12345 : Int64)) / (1000003 : Int64) * (1000003 : Int64)).toInt32))) else none
set_option maxHeartbeats 4000000 in
set_option maxRecDepth 100000 in
theorem c_Model_draw {l : Launch} {G : zLA} (hm : zml G) {a0 : Int32} {σ : zSt} {r : Int32} {σ' : zSt} (hf : F_Model_draw a0 σ = some (r, σ')) : zM l G y_Model_draw (zws y_Model_draw b_Model_draw 2 (some .int)) rm_Model_draw [.ref (zad G 4 80), .int a0] σ (some (.int r)) σ' := by
  refine z_ofM (own := "VillageWavesModel") (lv := [(0, .ref (zad G 4 80)), (1, .int a0)]) (by decide +kernel) rfl rfl (Nat.le_of_ble_eq_true rfl) (fun p e s m args below meth c C => ?_)
  rw [F_Model_draw] at hf
  refine z_aload_n C d_Model_draw_0 0 rfl rfl ?_
  refine gf_Model_7 C (zm4 hm 80 rfl) rfl rfl d_Model_draw_1 ?_
  refine z_bipush C d_Model_draw_4 zkb_9 ?_
  refine z_ldc2 C d_Model_draw_6 zq1689 ?_
  refine z_aload_n C d_Model_draw_9 0 rfl rfl ?_
  refine gf_Model_7 C (zm4 hm 80 rfl) rfl rfl d_Model_draw_10 ?_
  refine z_bipush C d_Model_draw_13 zkb_9 ?_
  refine z_iald C (zm4 hm 81 rfl) rfl (inb_in (by decide)) zc_9 d_Model_draw_15 ?_
  refine z_i2l C d_Model_draw_16 ?_
  refine z_lmul C d_Model_draw_17 ?_
  refine z_ldc2 C d_Model_draw_18 zq1690 ?_
  refine z_ladd C d_Model_draw_21 ?_
  refine z_ldc2 C d_Model_draw_22 zq1691 ?_
  refine z_lrem C d_Model_draw_25 (by decide) ?_
  refine z_l2i C d_Model_draw_26 ?_
  refine z_iast C (zm4 hm 81 rfl) (fun _ _ _ => rfl) (inb_in (by decide)) zc_9 d_Model_draw_27 ?_
  refine z_aload_n C d_Model_draw_28 0 rfl rfl ?_
  refine gf_Model_7 C (zm4 hm 80 rfl) rfl rfl d_Model_draw_29 ?_
  refine z_bipush C d_Model_draw_32 zkb_9 ?_
  refine z_iald C (zm4 hm 81 rfl) rfl (inb_in (by decide)) zc_9 d_Model_draw_34 ?_
  refine z_iload_n C d_Model_draw_35 1 rfl rfl ?_
  obtain ⟨h1, hf⟩ := iff_g hf
  refine z_irem C d_Model_draw_36 h1 ?_
  cases hf
  exact z_iret C rfl (Nat.le_of_ble_eq_true rfl) (Nat.le_of_ble_eq_true rfl) d_Model_draw_37
abbrev rm_Model_drawSpeaker : Room := { frames := 9, cells := 0, slots := 0, locals := 200 }
theorem d_Model_drawSpeaker_0 : decode b_Model_drawSpeaker 0 = .ok (.aload_n 0, 1) := by decide +kernel
theorem d_Model_drawSpeaker_1 : decode b_Model_drawSpeaker 1 = .ok (.invokevirtual 307, 3) := by decide +kernel
theorem d_Model_drawSpeaker_4 : decode b_Model_drawSpeaker 4 = .ok (.istore_n 1, 1) := by decide +kernel
theorem d_Model_drawSpeaker_5 : decode b_Model_drawSpeaker 5 = .ok (.iload_n 1, 1) := by decide +kernel
theorem d_Model_drawSpeaker_6 : decode b_Model_drawSpeaker 6 = .ok (.ifCond .ne 5, 3) := by decide +kernel
theorem d_Model_drawSpeaker_9 : decode b_Model_drawSpeaker 9 = .ok (.iconst (-1), 1) := by decide +kernel
theorem d_Model_drawSpeaker_10 : decode b_Model_drawSpeaker 10 = .ok (.ireturn, 1) := by decide +kernel
theorem d_Model_drawSpeaker_11 : decode b_Model_drawSpeaker 11 = .ok (.aload_n 0, 1) := by decide +kernel
theorem d_Model_drawSpeaker_12 : decode b_Model_drawSpeaker 12 = .ok (.aload_n 0, 1) := by decide +kernel
theorem d_Model_drawSpeaker_13 : decode b_Model_drawSpeaker 13 = .ok (.iload_n 1, 1) := by decide +kernel
theorem d_Model_drawSpeaker_14 : decode b_Model_drawSpeaker 14 = .ok (.invokevirtual 310, 3) := by decide +kernel
theorem d_Model_drawSpeaker_17 : decode b_Model_drawSpeaker 17 = .ok (.invokevirtual 313, 3) := by decide +kernel
theorem d_Model_drawSpeaker_20 : decode b_Model_drawSpeaker 20 = .ok (.istore_n 2, 1) := by decide +kernel
theorem d_Model_drawSpeaker_21 : decode b_Model_drawSpeaker 21 = .ok (.iconst 0, 1) := by decide +kernel
theorem d_Model_drawSpeaker_22 : decode b_Model_drawSpeaker 22 = .ok (.istore_n 3, 1) := by decide +kernel
theorem d_Model_drawSpeaker_23 : decode b_Model_drawSpeaker 23 = .ok (.iload_n 1, 1) := by decide +kernel
theorem d_Model_drawSpeaker_24 : decode b_Model_drawSpeaker 24 = .ok (.iload_n 3, 1) := by decide +kernel
theorem d_Model_drawSpeaker_25 : decode b_Model_drawSpeaker 25 = .ok (.ishr, 1) := by decide +kernel
theorem d_Model_drawSpeaker_26 : decode b_Model_drawSpeaker 26 = .ok (.iconst 1, 1) := by decide +kernel
theorem d_Model_drawSpeaker_27 : decode b_Model_drawSpeaker 27 = .ok (.iand, 1) := by decide +kernel
theorem d_Model_drawSpeaker_28 : decode b_Model_drawSpeaker 28 = .ok (.ifCond .eq 13, 3) := by decide +kernel
theorem d_Model_drawSpeaker_31 : decode b_Model_drawSpeaker 31 = .ok (.iload_n 2, 1) := by decide +kernel
theorem d_Model_drawSpeaker_32 : decode b_Model_drawSpeaker 32 = .ok (.aload_n 0, 1) := by decide +kernel
theorem d_Model_drawSpeaker_33 : decode b_Model_drawSpeaker 33 = .ok (.iload_n 3, 1) := by decide +kernel
theorem d_Model_drawSpeaker_34 : decode b_Model_drawSpeaker 34 = .ok (.iconst 4, 1) := by decide +kernel
theorem d_Model_drawSpeaker_35 : decode b_Model_drawSpeaker 35 = .ok (.invokevirtual 191, 3) := by decide +kernel
theorem d_Model_drawSpeaker_38 : decode b_Model_drawSpeaker 38 = .ok (.if_icmp .lt 24, 3) := by decide +kernel
theorem d_Model_drawSpeaker_41 : decode b_Model_drawSpeaker 41 = .ok (.iload_n 2, 1) := by decide +kernel
theorem d_Model_drawSpeaker_42 : decode b_Model_drawSpeaker 42 = .ok (.iload_n 1, 1) := by decide +kernel
theorem d_Model_drawSpeaker_43 : decode b_Model_drawSpeaker 43 = .ok (.iload_n 3, 1) := by decide +kernel
theorem d_Model_drawSpeaker_44 : decode b_Model_drawSpeaker 44 = .ok (.ishr, 1) := by decide +kernel
theorem d_Model_drawSpeaker_45 : decode b_Model_drawSpeaker 45 = .ok (.iconst 1, 1) := by decide +kernel
theorem d_Model_drawSpeaker_46 : decode b_Model_drawSpeaker 46 = .ok (.iand, 1) := by decide +kernel
theorem d_Model_drawSpeaker_47 : decode b_Model_drawSpeaker 47 = .ok (.aload_n 0, 1) := by decide +kernel
theorem d_Model_drawSpeaker_48 : decode b_Model_drawSpeaker 48 = .ok (.iload_n 3, 1) := by decide +kernel
theorem d_Model_drawSpeaker_49 : decode b_Model_drawSpeaker 49 = .ok (.iconst 4, 1) := by decide +kernel
theorem d_Model_drawSpeaker_50 : decode b_Model_drawSpeaker 50 = .ok (.invokevirtual 191, 3) := by decide +kernel
theorem d_Model_drawSpeaker_53 : decode b_Model_drawSpeaker 53 = .ok (.imul, 1) := by decide +kernel
theorem d_Model_drawSpeaker_54 : decode b_Model_drawSpeaker 54 = .ok (.isub, 1) := by decide +kernel
theorem d_Model_drawSpeaker_55 : decode b_Model_drawSpeaker 55 = .ok (.istore_n 2, 1) := by decide +kernel
theorem d_Model_drawSpeaker_56 : decode b_Model_drawSpeaker 56 = .ok (.iinc 3 1, 3) := by decide +kernel
theorem d_Model_drawSpeaker_59 : decode b_Model_drawSpeaker 59 = .ok (.goto (-36), 3) := by decide +kernel
theorem d_Model_drawSpeaker_62 : decode b_Model_drawSpeaker 62 = .ok (.iload_n 3, 1) := by decide +kernel
theorem d_Model_drawSpeaker_63 : decode b_Model_drawSpeaker 63 = .ok (.ireturn, 1) := by decide +kernel
def L_Model_drawSpeaker : Nat → Nat → Int32 → Int32 → Int32 → zSt → Option (Int32 × zSt)
  | 0, _, _, _, _, _ => none
  | n + 1, 0, x1, x2, x3, σ => if ((x1 >>> (x3 &&& 31)) &&& (1 : Int32)) = 0 then L_Model_drawSpeaker n 1 x1 x2 x3 σ else ((F_Model_of x3 (4 : Int32) σ).bind fun r11 => if x2 < r11 then some (x3, σ) else L_Model_drawSpeaker n 1 x1 x2 x3 σ)
  | n + 1, 1, x1, x2, x3, σ => (F_Model_of x3 (4 : Int32) σ).bind fun r15 => L_Model_drawSpeaker n 0 x1 (x2 - (((x1 >>> (x3 &&& 31)) &&& (1 : Int32)) * r15)) (x3 + (1 : Int32)) σ
  | _ + 1, _, _, _, _, _ => none
theorem e_Model_drawSpeaker_0 (n : Nat) (x1 : Int32) (x2 : Int32) (x3 : Int32) (σ : zSt) : L_Model_drawSpeaker (n + 1) 0 x1 x2 x3 σ = (if ((x1 >>> (x3 &&& 31)) &&& (1 : Int32)) = 0 then L_Model_drawSpeaker n 1 x1 x2 x3 σ else ((F_Model_of x3 (4 : Int32) σ).bind fun r11 => if x2 < r11 then some (x3, σ) else L_Model_drawSpeaker n 1 x1 x2 x3 σ)) := rfl
theorem e_Model_drawSpeaker_1 (n : Nat) (x1 : Int32) (x2 : Int32) (x3 : Int32) (σ : zSt) : L_Model_drawSpeaker (n + 1) 1 x1 x2 x3 σ = ((F_Model_of x3 (4 : Int32) σ).bind fun r15 => L_Model_drawSpeaker n 0 x1 (x2 - (((x1 >>> (x3 &&& 31)) &&& (1 : Int32)) * r15)) (x3 + (1 : Int32)) σ) := rfl
set_option maxHeartbeats 4000000 in
set_option maxRecDepth 100000 in
theorem w_Model_drawSpeaker {l : Launch} {G : zLA} {p : Program} {e : Env} {s : State} {m : MethodId} {args : Array Value} {below : List Frame} {meth : Method} {c : Code} (C : zCx G p s m args meth c "VillageWavesModel" b_Model_drawSpeaker 4 (some .int)) (hm : zml G) {r : Int32} {σ' : zSt} : ∀ n : Nat, (∀ (x1 : Int32) (x2 : Int32) (x3 : Int32) (σ : zSt), L_Model_drawSpeaker n 0 x1 x2 x3 σ = some (r, σ') → zWV G p l e rm_Model_drawSpeaker s m args below meth c 4 0 0 (zQ G below args s rm_Model_drawSpeaker (some (.int r)) σ') 23 [(0, .ref (zad G 4 80)), (1, .int x1), (2, .int x2), (3, .int x3)] [] σ) ∧ (∀ (x1 : Int32) (x2 : Int32) (x3 : Int32) (σ : zSt), L_Model_drawSpeaker n 1 x1 x2 x3 σ = some (r, σ') → zWV G p l e rm_Model_drawSpeaker s m args below meth c 4 0 0 (zQ G below args s rm_Model_drawSpeaker (some (.int r)) σ') 41 [(0, .ref (zad G 4 80)), (1, .int x1), (2, .int x2), (3, .int x3)] [] σ) := by
  intro n
  induction n with
  | zero => exact ⟨fun _ _ _ _ hf => (by cases hf), fun _ _ _ _ hf => (by cases hf)⟩
  | succ n ih =>
    refine ⟨?_, ?_⟩
    · intro x1 x2 x3 σ hf
      rw [e_Model_drawSpeaker_0] at hf
      refine z_iload_n C d_Model_drawSpeaker_23 1 rfl rfl ?_
      refine z_iload_n C d_Model_drawSpeaker_24 3 rfl rfl ?_
      refine z_ishr C d_Model_drawSpeaker_25 ?_
      refine z_iconst C d_Model_drawSpeaker_26 zki_1 ?_
      refine z_iand C d_Model_drawSpeaker_27 ?_
      refine z_if_eq (tgt := 41) C d_Model_drawSpeaker_28 rfl (fun h13 => ?_) (fun h13 => ?_)
      · have hf := iff_t hf h13
        exact z_sub [0, 1, 2, 3] rfl (ih.2 _ _ _ _ hf)
      · have hf := iff_f hf h13
        refine z_iload_n C d_Model_drawSpeaker_31 2 rfl rfl ?_
        refine z_aload_n C d_Model_drawSpeaker_32 0 rfl rfl ?_
        refine z_iload_n C d_Model_drawSpeaker_33 3 rfl rfl ?_
        refine z_iconst C d_Model_drawSpeaker_34 zki_4 ?_
        obtain ⟨r11, h10, hf⟩ := bd_s hf
        refine z_cVi C kl_Model_191 rfl (c_Model_of hm h10) (zm4 hm 80 rfl) rfl rfl rfl (Nat.le_of_ble_eq_true rfl) ⟨(Nat.le_of_ble_eq_true rfl), (Nat.le_of_ble_eq_true rfl)⟩ ⟨(Nat.le_of_ble_eq_true rfl), (Nat.le_of_ble_eq_true rfl)⟩ d_Model_drawSpeaker_35 ?_
        refine z_icmp_lt (tgt := 62) C d_Model_drawSpeaker_38 rfl (fun h12 => ?_) (fun h12 => ?_)
        · have hf := iff_t hf h12
          refine z_iload_n C d_Model_drawSpeaker_62 3 rfl rfl ?_
          cases hf
          exact z_iret C rfl (Nat.le_of_ble_eq_true rfl) (Nat.le_of_ble_eq_true rfl) d_Model_drawSpeaker_63
        · have hf := iff_f hf h12
          exact z_sub [0, 1, 2, 3] rfl (ih.2 _ _ _ _ hf)
    · intro x1 x2 x3 σ hf
      rw [e_Model_drawSpeaker_1] at hf
      refine z_iload_n C d_Model_drawSpeaker_41 2 rfl rfl ?_
      refine z_iload_n C d_Model_drawSpeaker_42 1 rfl rfl ?_
      refine z_iload_n C d_Model_drawSpeaker_43 3 rfl rfl ?_
      refine z_ishr C d_Model_drawSpeaker_44 ?_
      refine z_iconst C d_Model_drawSpeaker_45 zki_1 ?_
      refine z_iand C d_Model_drawSpeaker_46 ?_
      refine z_aload_n C d_Model_drawSpeaker_47 0 rfl rfl ?_
      refine z_iload_n C d_Model_drawSpeaker_48 3 rfl rfl ?_
      refine z_iconst C d_Model_drawSpeaker_49 zki_4 ?_
      obtain ⟨r15, h14, hf⟩ := bd_s hf
      refine z_cVi C kl_Model_191 rfl (c_Model_of hm h14) (zm4 hm 80 rfl) rfl rfl rfl (Nat.le_of_ble_eq_true rfl) ⟨(Nat.le_of_ble_eq_true rfl), (Nat.le_of_ble_eq_true rfl)⟩ ⟨(Nat.le_of_ble_eq_true rfl), (Nat.le_of_ble_eq_true rfl)⟩ d_Model_drawSpeaker_50 ?_
      refine z_imul C d_Model_drawSpeaker_53 ?_
      refine z_isub C d_Model_drawSpeaker_54 ?_
      refine z_istore_n C d_Model_drawSpeaker_55 rfl (by decide) ?_
      refine z_iinc C d_Model_drawSpeaker_56 3 rfl zki_1 (by decide) ?_
      refine z_goto (tgt := 23) C d_Model_drawSpeaker_59 rfl ?_
      exact z_sub [2, 3, 1, 0] rfl (ih.1 _ _ _ _ hf)
def F_Model_drawSpeaker (σ : zSt) : Option (Int32 × zSt) :=
  bd2 (F_Model_wishing σ) fun r2 σ3 => if r2 = 0 then some ((-1 : Int32), σ3) else ((F_Model_shares r2 σ3).bind fun r5 => bd2 (F_Model_draw r5 σ3) fun r7 σ8 => L_Model_drawSpeaker zK 0 r2 r7 (0 : Int32) σ8)
set_option maxHeartbeats 4000000 in
set_option maxRecDepth 100000 in
theorem c_Model_drawSpeaker {l : Launch} {G : zLA} (hm : zml G) {σ : zSt} {r : Int32} {σ' : zSt} (hf : F_Model_drawSpeaker σ = some (r, σ')) : zM l G y_Model_drawSpeaker (zws y_Model_drawSpeaker b_Model_drawSpeaker 4 (some .int)) rm_Model_drawSpeaker [.ref (zad G 4 80)] σ (some (.int r)) σ' := by
  refine z_ofM (own := "VillageWavesModel") (lv := [(0, .ref (zad G 4 80))]) (by decide +kernel) rfl rfl (Nat.le_of_ble_eq_true rfl) (fun p e s m args below meth c C => ?_)
  rw [F_Model_drawSpeaker] at hf
  refine z_aload_n C d_Model_drawSpeaker_0 0 rfl rfl ?_
  obtain ⟨r2, σ3, h1, hf⟩ := bd2_s hf
  refine z_cVi C kl_Model_307 rfl (c_Model_wishing hm h1) (zm4 hm 80 rfl) rfl rfl rfl (Nat.le_of_ble_eq_true rfl) ⟨(Nat.le_of_ble_eq_true rfl), (Nat.le_of_ble_eq_true rfl)⟩ ⟨(Nat.le_of_ble_eq_true rfl), (Nat.le_of_ble_eq_true rfl)⟩ d_Model_drawSpeaker_1 ?_
  refine z_istore_n C d_Model_drawSpeaker_4 rfl (by decide) ?_
  refine z_iload_n C d_Model_drawSpeaker_5 0 rfl rfl ?_
  refine z_if_ne (tgt := 11) C d_Model_drawSpeaker_6 rfl (fun h9 => ?_) (fun h9 => ?_)
  · have hf := iff_f hf h9
    refine z_aload_n C d_Model_drawSpeaker_11 1 rfl rfl ?_
    refine z_aload_n C d_Model_drawSpeaker_12 1 rfl rfl ?_
    refine z_iload_n C d_Model_drawSpeaker_13 0 rfl rfl ?_
    obtain ⟨r5, h4, hf⟩ := bd_s hf
    refine z_cVi C kl_Model_310 rfl (c_Model_shares hm h4) (zm4 hm 80 rfl) rfl rfl rfl (Nat.le_of_ble_eq_true rfl) ⟨(Nat.le_of_ble_eq_true rfl), (Nat.le_of_ble_eq_true rfl)⟩ ⟨(Nat.le_of_ble_eq_true rfl), (Nat.le_of_ble_eq_true rfl)⟩ d_Model_drawSpeaker_14 ?_
    obtain ⟨r7, σ8, h6, hf⟩ := bd2_s hf
    refine z_cVi C kl_Model_313 rfl (c_Model_draw hm h6) (zm4 hm 80 rfl) rfl rfl rfl (Nat.le_of_ble_eq_true rfl) ⟨(Nat.le_of_ble_eq_true rfl), (Nat.le_of_ble_eq_true rfl)⟩ ⟨(Nat.le_of_ble_eq_true rfl), (Nat.le_of_ble_eq_true rfl)⟩ d_Model_drawSpeaker_17 ?_
    refine z_istore_n C d_Model_drawSpeaker_20 rfl (by decide) ?_
    refine z_iconst C d_Model_drawSpeaker_21 zki_0 ?_
    refine z_istore_n C d_Model_drawSpeaker_22 rfl (by decide) ?_
    exact z_sub [3, 2, 1, 0] rfl ((w_Model_drawSpeaker C hm zK).1 _ _ _ _ hf)
  · have hf := iff_t hf h9
    refine z_iconst C d_Model_drawSpeaker_9 zki_m1 ?_
    cases hf
    exact z_iret C rfl (Nat.le_of_ble_eq_true rfl) (Nat.le_of_ble_eq_true rfl) d_Model_drawSpeaker_10
abbrev rm_Model_hearNews : Room := { frames := 3, cells := 0, slots := 0, locals := 68 }
theorem d_Model_hearNews_0 : decode b_Model_hearNews 0 = .ok (.aload_n 0, 1) := by decide +kernel
theorem d_Model_hearNews_1 : decode b_Model_hearNews 1 = .ok (.iload_n 2, 1) := by decide +kernel
theorem d_Model_hearNews_2 : decode b_Model_hearNews 2 = .ok (.iload_n 3, 1) := by decide +kernel
theorem d_Model_hearNews_3 : decode b_Model_hearNews 3 = .ok (.bipush 6, 2) := by decide +kernel
theorem d_Model_hearNews_5 : decode b_Model_hearNews 5 = .ok (.invokevirtual 209, 3) := by decide +kernel
theorem d_Model_hearNews_8 : decode b_Model_hearNews 8 = .ok (.iconst 1, 1) := by decide +kernel
theorem d_Model_hearNews_9 : decode b_Model_hearNews 9 = .ok (.iadd, 1) := by decide +kernel
theorem d_Model_hearNews_10 : decode b_Model_hearNews 10 = .ok (.istore 4, 2) := by decide +kernel
theorem d_Model_hearNews_12 : decode b_Model_hearNews 12 = .ok (.aload_n 0, 1) := by decide +kernel
theorem d_Model_hearNews_13 : decode b_Model_hearNews 13 = .ok (.iload_n 1, 1) := by decide +kernel
theorem d_Model_hearNews_14 : decode b_Model_hearNews 14 = .ok (.iload_n 3, 1) := by decide +kernel
theorem d_Model_hearNews_15 : decode b_Model_hearNews 15 = .ok (.iconst 0, 1) := by decide +kernel
theorem d_Model_hearNews_16 : decode b_Model_hearNews 16 = .ok (.iconst 1, 1) := by decide +kernel
theorem d_Model_hearNews_17 : decode b_Model_hearNews 17 = .ok (.invokevirtual 184, 3) := by decide +kernel
theorem d_Model_hearNews_20 : decode b_Model_hearNews 20 = .ok (.aload_n 0, 1) := by decide +kernel
theorem d_Model_hearNews_21 : decode b_Model_hearNews 21 = .ok (.iload_n 1, 1) := by decide +kernel
theorem d_Model_hearNews_22 : decode b_Model_hearNews 22 = .ok (.iload_n 3, 1) := by decide +kernel
theorem d_Model_hearNews_23 : decode b_Model_hearNews 23 = .ok (.iconst 2, 1) := by decide +kernel
theorem d_Model_hearNews_24 : decode b_Model_hearNews 24 = .ok (.iload_n 2, 1) := by decide +kernel
theorem d_Model_hearNews_25 : decode b_Model_hearNews 25 = .ok (.invokevirtual 184, 3) := by decide +kernel
theorem d_Model_hearNews_28 : decode b_Model_hearNews 28 = .ok (.aload_n 0, 1) := by decide +kernel
theorem d_Model_hearNews_29 : decode b_Model_hearNews 29 = .ok (.iload_n 1, 1) := by decide +kernel
theorem d_Model_hearNews_30 : decode b_Model_hearNews 30 = .ok (.iload_n 3, 1) := by decide +kernel
theorem d_Model_hearNews_31 : decode b_Model_hearNews 31 = .ok (.iconst 3, 1) := by decide +kernel
theorem d_Model_hearNews_32 : decode b_Model_hearNews 32 = .ok (.iload 4, 2) := by decide +kernel
theorem d_Model_hearNews_34 : decode b_Model_hearNews 34 = .ok (.invokevirtual 184, 3) := by decide +kernel
theorem d_Model_hearNews_37 : decode b_Model_hearNews 37 = .ok (.iload 4, 2) := by decide +kernel
theorem d_Model_hearNews_39 : decode b_Model_hearNews 39 = .ok (.aload_n 0, 1) := by decide +kernel
theorem d_Model_hearNews_40 : decode b_Model_hearNews 40 = .ok (.getfield 7, 3) := by decide +kernel
theorem d_Model_hearNews_43 : decode b_Model_hearNews 43 = .ok (.iconst 4, 1) := by decide +kernel
theorem d_Model_hearNews_44 : decode b_Model_hearNews 44 = .ok (.iaload, 1) := by decide +kernel
theorem d_Model_hearNews_45 : decode b_Model_hearNews 45 = .ok (.if_icmp .gt 11, 3) := by decide +kernel
theorem d_Model_hearNews_48 : decode b_Model_hearNews 48 = .ok (.aload_n 0, 1) := by decide +kernel
theorem d_Model_hearNews_49 : decode b_Model_hearNews 49 = .ok (.iload_n 1, 1) := by decide +kernel
theorem d_Model_hearNews_50 : decode b_Model_hearNews 50 = .ok (.iload_n 3, 1) := by decide +kernel
theorem d_Model_hearNews_51 : decode b_Model_hearNews 51 = .ok (.iload 4, 2) := by decide +kernel
theorem d_Model_hearNews_53 : decode b_Model_hearNews 53 = .ok (.invokevirtual 286, 3) := by decide +kernel
theorem d_Model_hearNews_56 : decode b_Model_hearNews 56 = .ok (.aload_n 0, 1) := by decide +kernel
theorem d_Model_hearNews_57 : decode b_Model_hearNews 57 = .ok (.dup, 1) := by decide +kernel
theorem d_Model_hearNews_58 : decode b_Model_hearNews 58 = .ok (.getfield 316, 3) := by decide +kernel
theorem d_Model_hearNews_61 : decode b_Model_hearNews 61 = .ok (.iconst 1, 1) := by decide +kernel
theorem d_Model_hearNews_62 : decode b_Model_hearNews 62 = .ok (.iadd, 1) := by decide +kernel
theorem d_Model_hearNews_63 : decode b_Model_hearNews 63 = .ok (.putfield 316, 3) := by decide +kernel
theorem d_Model_hearNews_66 : decode b_Model_hearNews 66 = .ok (.return_, 1) := by decide +kernel
def F_Model_hearNews (a0 : Int32) (a1 : Int32) (a2 : Int32) (σ : zSt) : Option (zSt) :=
  (F_Model_pair a1 a2 (6 : Int32) σ).bind fun r2 => (F_Model_setPair a0 a2 (0 : Int32) (1 : Int32) σ).bind fun σ4 => (F_Model_setPair a0 a2 (2 : Int32) a1 σ4).bind fun σ6 => (F_Model_setPair a0 a2 (3 : Int32) (r2 + (1 : Int32)) σ6).bind fun σ8 => if (σ8.1 4 81 4) < (r2 + (1 : Int32)) then some (zst σ8 4 80 21 ((σ8.1 4 80 21) + (1 : Int32))) else ((F_Model_enter a0 a2 (r2 + (1 : Int32)) σ8).bind fun σ10 => some (zst σ10 4 80 21 ((σ10.1 4 80 21) + (1 : Int32))))
set_option maxHeartbeats 4000000 in
set_option maxRecDepth 100000 in
theorem c_Model_hearNews {l : Launch} {G : zLA} (hm : zml G) {a0 : Int32} {a1 : Int32} {a2 : Int32} {σ : zSt} {σ' : zSt} (hf : F_Model_hearNews a0 a1 a2 σ = some σ') : zM l G y_Model_hearNews (zws y_Model_hearNews b_Model_hearNews 5 none) rm_Model_hearNews [.ref (zad G 4 80), .int a0, .int a1, .int a2] σ none σ' := by
  refine z_ofM (own := "VillageWavesModel") (lv := [(0, .ref (zad G 4 80)), (1, .int a0), (2, .int a1), (3, .int a2)]) (by decide +kernel) rfl rfl (Nat.le_of_ble_eq_true rfl) (fun p e s m args below meth c C => ?_)
  rw [F_Model_hearNews] at hf
  refine z_aload_n C d_Model_hearNews_0 0 rfl rfl ?_
  refine z_iload_n C d_Model_hearNews_1 2 rfl rfl ?_
  refine z_iload_n C d_Model_hearNews_2 3 rfl rfl ?_
  refine z_bipush C d_Model_hearNews_3 zkb_6 ?_
  obtain ⟨r2, h1, hf⟩ := bd_s hf
  refine z_cVi C kl_Model_209 rfl (c_Model_pair hm h1) (zm4 hm 80 rfl) rfl rfl rfl (Nat.le_of_ble_eq_true rfl) ⟨(Nat.le_of_ble_eq_true rfl), (Nat.le_of_ble_eq_true rfl)⟩ ⟨(Nat.le_of_ble_eq_true rfl), (Nat.le_of_ble_eq_true rfl)⟩ d_Model_hearNews_5 ?_
  refine z_iconst C d_Model_hearNews_8 zki_1 ?_
  refine z_iadd C d_Model_hearNews_9 ?_
  refine z_istore C d_Model_hearNews_10 (by decide) ?_
  refine z_aload_n C d_Model_hearNews_12 1 rfl rfl ?_
  refine z_iload_n C d_Model_hearNews_13 2 rfl rfl ?_
  refine z_iload_n C d_Model_hearNews_14 4 rfl rfl ?_
  refine z_iconst C d_Model_hearNews_15 zki_0 ?_
  refine z_iconst C d_Model_hearNews_16 zki_1 ?_
  obtain ⟨σ4, h3, hf⟩ := bd_s hf
  refine z_cVv C kl_Model_184 rfl (c_Model_setPair hm h3) (zm4 hm 80 rfl) rfl rfl rfl (Nat.le_of_ble_eq_true rfl) ⟨(Nat.le_of_ble_eq_true rfl), (Nat.le_of_ble_eq_true rfl)⟩ ⟨(Nat.le_of_ble_eq_true rfl), (Nat.le_of_ble_eq_true rfl)⟩ d_Model_hearNews_17 ?_
  refine z_aload_n C d_Model_hearNews_20 1 rfl rfl ?_
  refine z_iload_n C d_Model_hearNews_21 2 rfl rfl ?_
  refine z_iload_n C d_Model_hearNews_22 4 rfl rfl ?_
  refine z_iconst C d_Model_hearNews_23 zki_2 ?_
  refine z_iload_n C d_Model_hearNews_24 3 rfl rfl ?_
  obtain ⟨σ6, h5, hf⟩ := bd_s hf
  refine z_cVv C kl_Model_184 rfl (c_Model_setPair hm h5) (zm4 hm 80 rfl) rfl rfl rfl (Nat.le_of_ble_eq_true rfl) ⟨(Nat.le_of_ble_eq_true rfl), (Nat.le_of_ble_eq_true rfl)⟩ ⟨(Nat.le_of_ble_eq_true rfl), (Nat.le_of_ble_eq_true rfl)⟩ d_Model_hearNews_25 ?_
  refine z_aload_n C d_Model_hearNews_28 1 rfl rfl ?_
  refine z_iload_n C d_Model_hearNews_29 2 rfl rfl ?_
  refine z_iload_n C d_Model_hearNews_30 4 rfl rfl ?_
  refine z_iconst C d_Model_hearNews_31 zki_3 ?_
  refine z_iload C d_Model_hearNews_32 0 rfl ?_
  obtain ⟨σ8, h7, hf⟩ := bd_s hf
  refine z_cVv C kl_Model_184 rfl (c_Model_setPair hm h7) (zm4 hm 80 rfl) rfl rfl rfl (Nat.le_of_ble_eq_true rfl) ⟨(Nat.le_of_ble_eq_true rfl), (Nat.le_of_ble_eq_true rfl)⟩ ⟨(Nat.le_of_ble_eq_true rfl), (Nat.le_of_ble_eq_true rfl)⟩ d_Model_hearNews_34 ?_
  refine z_iload C d_Model_hearNews_37 0 rfl ?_
  refine z_aload_n C d_Model_hearNews_39 1 rfl rfl ?_
  refine gf_Model_7 C (zm4 hm 80 rfl) rfl rfl d_Model_hearNews_40 ?_
  refine z_iconst C d_Model_hearNews_43 zki_4 ?_
  refine z_iald C (zm4 hm 81 rfl) rfl (inb_in (by decide)) zc_4 d_Model_hearNews_44 ?_
  refine z_icmp_gt (tgt := 56) C d_Model_hearNews_45 rfl (fun h11 => ?_) (fun h11 => ?_)
  · have hf := iff_t hf h11
    refine z_aload_n C d_Model_hearNews_56 1 rfl rfl ?_
    refine z_dup C d_Model_hearNews_57 rfl ?_
    refine gf_Model_316 C (zm4 hm 80 rfl) rfl rfl d_Model_hearNews_58 ?_
    refine z_iconst C d_Model_hearNews_61 zki_1 ?_
    refine z_iadd C d_Model_hearNews_62 ?_
    refine pf_Model_316 C (zm4 hm 80 rfl) rfl (Nat.le_of_ble_eq_true rfl) rfl d_Model_hearNews_63 ?_
    cases hf
    exact z_vret C rfl (Nat.le_of_ble_eq_true rfl) (Nat.le_of_ble_eq_true rfl) d_Model_hearNews_66
  · have hf := iff_f hf h11
    refine z_aload_n C d_Model_hearNews_48 1 rfl rfl ?_
    refine z_iload_n C d_Model_hearNews_49 2 rfl rfl ?_
    refine z_iload_n C d_Model_hearNews_50 4 rfl rfl ?_
    refine z_iload C d_Model_hearNews_51 0 rfl ?_
    obtain ⟨σ10, h9, hf⟩ := bd_s hf
    refine z_cVv C kl_Model_286 rfl (c_Model_enter hm h9) (zm4 hm 80 rfl) rfl rfl rfl (Nat.le_of_ble_eq_true rfl) ⟨(Nat.le_of_ble_eq_true rfl), (Nat.le_of_ble_eq_true rfl)⟩ ⟨(Nat.le_of_ble_eq_true rfl), (Nat.le_of_ble_eq_true rfl)⟩ d_Model_hearNews_53 ?_
    refine z_aload_n C d_Model_hearNews_56 1 rfl rfl ?_
    refine z_dup C d_Model_hearNews_57 rfl ?_
    refine gf_Model_316 C (zm4 hm 80 rfl) rfl rfl d_Model_hearNews_58 ?_
    refine z_iconst C d_Model_hearNews_61 zki_1 ?_
    refine z_iadd C d_Model_hearNews_62 ?_
    refine pf_Model_316 C (zm4 hm 80 rfl) rfl (Nat.le_of_ble_eq_true rfl) rfl d_Model_hearNews_63 ?_
    cases hf
    exact z_vret C rfl (Nat.le_of_ble_eq_true rfl) (Nat.le_of_ble_eq_true rfl) d_Model_hearNews_66
abbrev rm_Model_hear : Room := { frames := 5, cells := 0, slots := 0, locals := 114 }
theorem d_Model_hear_0 : decode b_Model_hear 0 = .ok (.iload_n 3, 1) := by decide +kernel
theorem d_Model_hear_1 : decode b_Model_hear 1 = .ok (.iconst 2, 1) := by decide +kernel
theorem d_Model_hear_2 : decode b_Model_hear 2 = .ok (.idiv, 1) := by decide +kernel
theorem d_Model_hear_3 : decode b_Model_hear 3 = .ok (.istore 4, 2) := by decide +kernel
theorem d_Model_hear_5 : decode b_Model_hear 5 = .ok (.aload_n 0, 1) := by decide +kernel
theorem d_Model_hear_6 : decode b_Model_hear 6 = .ok (.iload_n 1, 1) := by decide +kernel
theorem d_Model_hear_7 : decode b_Model_hear 7 = .ok (.iconst 3, 1) := by decide +kernel
theorem d_Model_hear_8 : decode b_Model_hear 8 = .ok (.aload_n 0, 1) := by decide +kernel
theorem d_Model_hear_9 : decode b_Model_hear 9 = .ok (.iload_n 1, 1) := by decide +kernel
theorem d_Model_hear_10 : decode b_Model_hear 10 = .ok (.iconst 3, 1) := by decide +kernel
theorem d_Model_hear_11 : decode b_Model_hear 11 = .ok (.invokevirtual 191, 3) := by decide +kernel
theorem d_Model_hear_14 : decode b_Model_hear 14 = .ok (.aload_n 0, 1) := by decide +kernel
theorem d_Model_hear_15 : decode b_Model_hear 15 = .ok (.getfield 7, 3) := by decide +kernel
theorem d_Model_hear_18 : decode b_Model_hear 18 = .ok (.iconst 1, 1) := by decide +kernel
theorem d_Model_hear_19 : decode b_Model_hear 19 = .ok (.iaload, 1) := by decide +kernel
theorem d_Model_hear_20 : decode b_Model_hear 20 = .ok (.isub, 1) := by decide +kernel
theorem d_Model_hear_21 : decode b_Model_hear 21 = .ok (.invokevirtual 140, 3) := by decide +kernel
theorem d_Model_hear_24 : decode b_Model_hear 24 = .ok (.aload_n 0, 1) := by decide +kernel
theorem d_Model_hear_25 : decode b_Model_hear 25 = .ok (.dup, 1) := by decide +kernel
theorem d_Model_hear_26 : decode b_Model_hear 26 = .ok (.getfield 319, 3) := by decide +kernel
theorem d_Model_hear_29 : decode b_Model_hear 29 = .ok (.aload_n 0, 1) := by decide +kernel
theorem d_Model_hear_30 : decode b_Model_hear 30 = .ok (.getfield 7, 3) := by decide +kernel
theorem d_Model_hear_33 : decode b_Model_hear 33 = .ok (.iconst 1, 1) := by decide +kernel
theorem d_Model_hear_34 : decode b_Model_hear 34 = .ok (.iaload, 1) := by decide +kernel
theorem d_Model_hear_35 : decode b_Model_hear 35 = .ok (.iadd, 1) := by decide +kernel
theorem d_Model_hear_36 : decode b_Model_hear 36 = .ok (.putfield 319, 3) := by decide +kernel
theorem d_Model_hear_39 : decode b_Model_hear 39 = .ok (.aload_n 0, 1) := by decide +kernel
theorem d_Model_hear_40 : decode b_Model_hear 40 = .ok (.iload_n 1, 1) := by decide +kernel
theorem d_Model_hear_41 : decode b_Model_hear 41 = .ok (.iload 4, 2) := by decide +kernel
theorem d_Model_hear_43 : decode b_Model_hear 43 = .ok (.iconst 1, 1) := by decide +kernel
theorem d_Model_hear_44 : decode b_Model_hear 44 = .ok (.invokevirtual 209, 3) := by decide +kernel
theorem d_Model_hear_47 : decode b_Model_hear 47 = .ok (.iconst 1, 1) := by decide +kernel
theorem d_Model_hear_48 : decode b_Model_hear 48 = .ok (.if_icmp .eq 23, 3) := by decide +kernel
theorem d_Model_hear_51 : decode b_Model_hear 51 = .ok (.aload_n 0, 1) := by decide +kernel
theorem d_Model_hear_52 : decode b_Model_hear 52 = .ok (.iload_n 3, 1) := by decide +kernel
theorem d_Model_hear_53 : decode b_Model_hear 53 = .ok (.invokevirtual 249, 3) := by decide +kernel
theorem d_Model_hear_56 : decode b_Model_hear 56 = .ok (.ifCond .ne 17, 3) := by decide +kernel
theorem d_Model_hear_59 : decode b_Model_hear 59 = .ok (.aload_n 0, 1) := by decide +kernel
theorem d_Model_hear_60 : decode b_Model_hear 60 = .ok (.iload_n 1, 1) := by decide +kernel
theorem d_Model_hear_61 : decode b_Model_hear 61 = .ok (.iload 4, 2) := by decide +kernel
theorem d_Model_hear_63 : decode b_Model_hear 63 = .ok (.iconst 0, 1) := by decide +kernel
theorem d_Model_hear_64 : decode b_Model_hear 64 = .ok (.invokevirtual 209, 3) := by decide +kernel
theorem d_Model_hear_67 : decode b_Model_hear 67 = .ok (.iconst 1, 1) := by decide +kernel
theorem d_Model_hear_68 : decode b_Model_hear 68 = .ok (.if_icmp .ne 5, 3) := by decide +kernel
theorem d_Model_hear_71 : decode b_Model_hear 71 = .ok (.iconst 0, 1) := by decide +kernel
theorem d_Model_hear_72 : decode b_Model_hear 72 = .ok (.ireturn, 1) := by decide +kernel
theorem d_Model_hear_73 : decode b_Model_hear 73 = .ok (.aload_n 0, 1) := by decide +kernel
theorem d_Model_hear_74 : decode b_Model_hear 74 = .ok (.iload_n 3, 1) := by decide +kernel
theorem d_Model_hear_75 : decode b_Model_hear 75 = .ok (.invokevirtual 249, 3) := by decide +kernel
theorem d_Model_hear_78 : decode b_Model_hear 78 = .ok (.ifCond .eq 23, 3) := by decide +kernel
theorem d_Model_hear_81 : decode b_Model_hear 81 = .ok (.aload_n 0, 1) := by decide +kernel
theorem d_Model_hear_82 : decode b_Model_hear 82 = .ok (.iload_n 1, 1) := by decide +kernel
theorem d_Model_hear_83 : decode b_Model_hear 83 = .ok (.iload 4, 2) := by decide +kernel
theorem d_Model_hear_85 : decode b_Model_hear 85 = .ok (.invokevirtual 289, 3) := by decide +kernel
theorem d_Model_hear_88 : decode b_Model_hear 88 = .ok (.aload_n 0, 1) := by decide +kernel
theorem d_Model_hear_89 : decode b_Model_hear 89 = .ok (.dup, 1) := by decide +kernel
theorem d_Model_hear_90 : decode b_Model_hear 90 = .ok (.getfield 322, 3) := by decide +kernel
theorem d_Model_hear_93 : decode b_Model_hear 93 = .ok (.iconst 1, 1) := by decide +kernel
theorem d_Model_hear_94 : decode b_Model_hear 94 = .ok (.iadd, 1) := by decide +kernel
theorem d_Model_hear_95 : decode b_Model_hear 95 = .ok (.putfield 322, 3) := by decide +kernel
theorem d_Model_hear_98 : decode b_Model_hear 98 = .ok (.goto 11, 3) := by decide +kernel
theorem d_Model_hear_101 : decode b_Model_hear 101 = .ok (.aload_n 0, 1) := by decide +kernel
theorem d_Model_hear_102 : decode b_Model_hear 102 = .ok (.iload_n 1, 1) := by decide +kernel
theorem d_Model_hear_103 : decode b_Model_hear 103 = .ok (.iload_n 2, 1) := by decide +kernel
theorem d_Model_hear_104 : decode b_Model_hear 104 = .ok (.iload 4, 2) := by decide +kernel
theorem d_Model_hear_106 : decode b_Model_hear 106 = .ok (.invokevirtual 325, 3) := by decide +kernel
theorem d_Model_hear_109 : decode b_Model_hear 109 = .ok (.iconst 1, 1) := by decide +kernel
theorem d_Model_hear_110 : decode b_Model_hear 110 = .ok (.ireturn, 1) := by decide +kernel
def B_Model_hear_73 (x1 : Int32) (x2 : Int32) (x3 : Int32) (x4 : Int32) (σ : zSt) : Option (Int32 × zSt) :=
  (F_Model_isCorrection x3 σ).bind fun r15 => if r15 = 0 then ((F_Model_hearNews x1 x2 x4 σ).bind fun σ17 => some ((1 : Int32), σ17)) else ((F_Model_learn x1 x4 σ).bind fun σ19 => some ((1 : Int32), (zst σ19 4 80 22 ((σ19.1 4 80 22) + (1 : Int32)))))
set_option maxHeartbeats 4000000 in
set_option maxRecDepth 100000 in
theorem w_Model_hear_73 {l : Launch} {G : zLA} {p : Program} {e : Env} {s : State} {m : MethodId} {args : Array Value} {below : List Frame} {meth : Method} {c : Code} (C : zCx G p s m args meth c "VillageWavesModel" b_Model_hear 5 (some .boolean)) (hm : zml G) {x1 : Int32} {x2 : Int32} {x3 : Int32} {x4 : Int32} {σ : zSt} {r : Int32} {σ' : zSt} (hf : B_Model_hear_73 x1 x2 x3 x4 σ = some (r, σ')) : zWV G p l e rm_Model_hear s m args below meth c 5 0 0 (zQ G below args s rm_Model_hear (some (.int r)) σ') 73 [(0, .ref (zad G 4 80)), (1, .int x1), (2, .int x2), (3, .int x3), (4, .int x4)] [] σ := by
  rw [B_Model_hear_73] at hf
  refine z_aload_n C d_Model_hear_73 0 rfl rfl ?_
  refine z_iload_n C d_Model_hear_74 3 rfl rfl ?_
  obtain ⟨r15, h14, hf⟩ := bd_s hf
  refine z_cVi C kl_Model_249 rfl (c_Model_isCorrection hm h14) (zm4 hm 80 rfl) rfl rfl rfl (Nat.le_of_ble_eq_true rfl) ⟨(Nat.le_of_ble_eq_true rfl), (Nat.le_of_ble_eq_true rfl)⟩ ⟨(Nat.le_of_ble_eq_true rfl), (Nat.le_of_ble_eq_true rfl)⟩ d_Model_hear_75 ?_
  refine z_if_eq (tgt := 101) C d_Model_hear_78 rfl (fun h20 => ?_) (fun h20 => ?_)
  · have hf := iff_t hf h20
    refine z_aload_n C d_Model_hear_101 0 rfl rfl ?_
    refine z_iload_n C d_Model_hear_102 1 rfl rfl ?_
    refine z_iload_n C d_Model_hear_103 2 rfl rfl ?_
    refine z_iload C d_Model_hear_104 4 rfl ?_
    obtain ⟨σ17, h16, hf⟩ := bd_s hf
    refine z_cVv C kl_Model_325 rfl (c_Model_hearNews hm h16) (zm4 hm 80 rfl) rfl rfl rfl (Nat.le_of_ble_eq_true rfl) ⟨(Nat.le_of_ble_eq_true rfl), (Nat.le_of_ble_eq_true rfl)⟩ ⟨(Nat.le_of_ble_eq_true rfl), (Nat.le_of_ble_eq_true rfl)⟩ d_Model_hear_106 ?_
    refine z_iconst C d_Model_hear_109 zki_1 ?_
    cases hf
    exact z_zret C rfl rfl (Nat.le_of_ble_eq_true rfl) (Nat.le_of_ble_eq_true rfl) d_Model_hear_110
  · have hf := iff_f hf h20
    refine z_aload_n C d_Model_hear_81 0 rfl rfl ?_
    refine z_iload_n C d_Model_hear_82 1 rfl rfl ?_
    refine z_iload C d_Model_hear_83 4 rfl ?_
    obtain ⟨σ19, h18, hf⟩ := bd_s hf
    refine z_cVv C kl_Model_289 rfl (c_Model_learn hm h18) (zm4 hm 80 rfl) rfl rfl rfl (Nat.le_of_ble_eq_true rfl) ⟨(Nat.le_of_ble_eq_true rfl), (Nat.le_of_ble_eq_true rfl)⟩ ⟨(Nat.le_of_ble_eq_true rfl), (Nat.le_of_ble_eq_true rfl)⟩ d_Model_hear_85 ?_
    refine z_aload_n C d_Model_hear_88 0 rfl rfl ?_
    refine z_dup C d_Model_hear_89 rfl ?_
    refine gf_Model_322 C (zm4 hm 80 rfl) rfl rfl d_Model_hear_90 ?_
    refine z_iconst C d_Model_hear_93 zki_1 ?_
    refine z_iadd C d_Model_hear_94 ?_
    refine pf_Model_322 C (zm4 hm 80 rfl) rfl (Nat.le_of_ble_eq_true rfl) rfl d_Model_hear_95 ?_
    refine z_goto (tgt := 109) C d_Model_hear_98 rfl ?_
    refine z_iconst C d_Model_hear_109 zki_1 ?_
    cases hf
    exact z_zret C rfl rfl (Nat.le_of_ble_eq_true rfl) (Nat.le_of_ble_eq_true rfl) d_Model_hear_110
def F_Model_hear (a0 : Int32) (a1 : Int32) (a2 : Int32) (σ : zSt) : Option (Int32 × zSt) :=
  (F_Model_of a0 (3 : Int32) σ).bind fun r2 => (F_Model_put a0 (3 : Int32) (r2 - (σ.1 4 81 1)) σ).bind fun σ4 => (F_Model_pair a0 (a2 / (2 : Int32)) (1 : Int32) (zst σ4 4 80 23 ((σ4.1 4 80 23) + (σ4.1 4 81 1)))).bind fun r6 => if r6 = (1 : Int32) then some ((0 : Int32), (zst σ4 4 80 23 ((σ4.1 4 80 23) + (σ4.1 4 81 1)))) else ((F_Model_isCorrection a2 (zst σ4 4 80 23 ((σ4.1 4 80 23) + (σ4.1 4 81 1)))).bind fun r8 => if r8 = 0 then ((F_Model_pair a0 (a2 / (2 : Int32)) (0 : Int32) (zst σ4 4 80 23 ((σ4.1 4 80 23) + (σ4.1 4 81 1)))).bind fun r10 => if r10 = (1 : Int32) then some ((0 : Int32), (zst σ4 4 80 23 ((σ4.1 4 80 23) + (σ4.1 4 81 1)))) else B_Model_hear_73 a0 a1 a2 (a2 / (2 : Int32)) (zst σ4 4 80 23 ((σ4.1 4 80 23) + (σ4.1 4 81 1)))) else B_Model_hear_73 a0 a1 a2 (a2 / (2 : Int32)) (zst σ4 4 80 23 ((σ4.1 4 80 23) + (σ4.1 4 81 1))))
set_option maxHeartbeats 4000000 in
set_option maxRecDepth 100000 in
theorem c_Model_hear {l : Launch} {G : zLA} (hm : zml G) {a0 : Int32} {a1 : Int32} {a2 : Int32} {σ : zSt} {r : Int32} {σ' : zSt} (hf : F_Model_hear a0 a1 a2 σ = some (r, σ')) : zM l G y_Model_hear (zws y_Model_hear b_Model_hear 5 (some .boolean)) rm_Model_hear [.ref (zad G 4 80), .int a0, .int a1, .int a2] σ (some (.int r)) σ' := by
  refine z_ofM (own := "VillageWavesModel") (lv := [(0, .ref (zad G 4 80)), (1, .int a0), (2, .int a1), (3, .int a2)]) (by decide +kernel) rfl rfl (Nat.le_of_ble_eq_true rfl) (fun p e s m args below meth c C => ?_)
  rw [F_Model_hear] at hf
  refine z_iload_n C d_Model_hear_0 3 rfl rfl ?_
  refine z_iconst C d_Model_hear_1 zki_2 ?_
  refine z_idiv C d_Model_hear_2 (by decide) ?_
  refine z_istore C d_Model_hear_3 (by decide) ?_
  refine z_aload_n C d_Model_hear_5 1 rfl rfl ?_
  refine z_iload_n C d_Model_hear_6 2 rfl rfl ?_
  refine z_iconst C d_Model_hear_7 zki_3 ?_
  refine z_aload_n C d_Model_hear_8 1 rfl rfl ?_
  refine z_iload_n C d_Model_hear_9 2 rfl rfl ?_
  refine z_iconst C d_Model_hear_10 zki_3 ?_
  obtain ⟨r2, h1, hf⟩ := bd_s hf
  refine z_cVi C kl_Model_191 rfl (c_Model_of hm h1) (zm4 hm 80 rfl) rfl rfl rfl (Nat.le_of_ble_eq_true rfl) ⟨(Nat.le_of_ble_eq_true rfl), (Nat.le_of_ble_eq_true rfl)⟩ ⟨(Nat.le_of_ble_eq_true rfl), (Nat.le_of_ble_eq_true rfl)⟩ d_Model_hear_11 ?_
  refine z_aload_n C d_Model_hear_14 1 rfl rfl ?_
  refine gf_Model_7 C (zm4 hm 80 rfl) rfl rfl d_Model_hear_15 ?_
  refine z_iconst C d_Model_hear_18 zki_1 ?_
  refine z_iald C (zm4 hm 81 rfl) rfl (inb_in (by decide)) zc_1 d_Model_hear_19 ?_
  refine z_isub C d_Model_hear_20 ?_
  obtain ⟨σ4, h3, hf⟩ := bd_s hf
  refine z_cVv C kl_Model_140 rfl (c_Model_put hm h3) (zm4 hm 80 rfl) rfl rfl rfl (Nat.le_of_ble_eq_true rfl) ⟨(Nat.le_of_ble_eq_true rfl), (Nat.le_of_ble_eq_true rfl)⟩ ⟨(Nat.le_of_ble_eq_true rfl), (Nat.le_of_ble_eq_true rfl)⟩ d_Model_hear_21 ?_
  refine z_aload_n C d_Model_hear_24 1 rfl rfl ?_
  refine z_dup C d_Model_hear_25 rfl ?_
  refine gf_Model_319 C (zm4 hm 80 rfl) rfl rfl d_Model_hear_26 ?_
  refine z_aload_n C d_Model_hear_29 1 rfl rfl ?_
  refine gf_Model_7 C (zm4 hm 80 rfl) rfl rfl d_Model_hear_30 ?_
  refine z_iconst C d_Model_hear_33 zki_1 ?_
  refine z_iald C (zm4 hm 81 rfl) rfl (inb_in (by decide)) zc_1 d_Model_hear_34 ?_
  refine z_iadd C d_Model_hear_35 ?_
  refine pf_Model_319 C (zm4 hm 80 rfl) rfl (Nat.le_of_ble_eq_true rfl) rfl d_Model_hear_36 ?_
  refine z_aload_n C d_Model_hear_39 1 rfl rfl ?_
  refine z_iload_n C d_Model_hear_40 2 rfl rfl ?_
  refine z_iload C d_Model_hear_41 0 rfl ?_
  refine z_iconst C d_Model_hear_43 zki_1 ?_
  obtain ⟨r6, h5, hf⟩ := bd_s hf
  refine z_cVi C kl_Model_209 rfl (c_Model_pair hm h5) (zm4 hm 80 rfl) rfl rfl rfl (Nat.le_of_ble_eq_true rfl) ⟨(Nat.le_of_ble_eq_true rfl), (Nat.le_of_ble_eq_true rfl)⟩ ⟨(Nat.le_of_ble_eq_true rfl), (Nat.le_of_ble_eq_true rfl)⟩ d_Model_hear_44 ?_
  refine z_iconst C d_Model_hear_47 zki_1 ?_
  refine z_icmp_eq (tgt := 71) C d_Model_hear_48 rfl (fun h13 => ?_) (fun h13 => ?_)
  · have hf := iff_t hf h13
    refine z_iconst C d_Model_hear_71 zki_0 ?_
    cases hf
    exact z_zret C rfl rfl (Nat.le_of_ble_eq_true rfl) (Nat.le_of_ble_eq_true rfl) d_Model_hear_72
  · have hf := iff_f hf h13
    refine z_aload_n C d_Model_hear_51 1 rfl rfl ?_
    refine z_iload_n C d_Model_hear_52 4 rfl rfl ?_
    obtain ⟨r8, h7, hf⟩ := bd_s hf
    refine z_cVi C kl_Model_249 rfl (c_Model_isCorrection hm h7) (zm4 hm 80 rfl) rfl rfl rfl (Nat.le_of_ble_eq_true rfl) ⟨(Nat.le_of_ble_eq_true rfl), (Nat.le_of_ble_eq_true rfl)⟩ ⟨(Nat.le_of_ble_eq_true rfl), (Nat.le_of_ble_eq_true rfl)⟩ d_Model_hear_53 ?_
    refine z_if_ne (tgt := 73) C d_Model_hear_56 rfl (fun h12 => ?_) (fun h12 => ?_)
    · have hf := iff_f hf h12
      exact z_sub [1, 2, 3, 4, 0] rfl (w_Model_hear_73 C hm hf)
    · have hf := iff_t hf h12
      refine z_aload_n C d_Model_hear_59 1 rfl rfl ?_
      refine z_iload_n C d_Model_hear_60 2 rfl rfl ?_
      refine z_iload C d_Model_hear_61 0 rfl ?_
      refine z_iconst C d_Model_hear_63 zki_0 ?_
      obtain ⟨r10, h9, hf⟩ := bd_s hf
      refine z_cVi C kl_Model_209 rfl (c_Model_pair hm h9) (zm4 hm 80 rfl) rfl rfl rfl (Nat.le_of_ble_eq_true rfl) ⟨(Nat.le_of_ble_eq_true rfl), (Nat.le_of_ble_eq_true rfl)⟩ ⟨(Nat.le_of_ble_eq_true rfl), (Nat.le_of_ble_eq_true rfl)⟩ d_Model_hear_64 ?_
      refine z_iconst C d_Model_hear_67 zki_1 ?_
      refine z_icmp_ne (tgt := 73) C d_Model_hear_68 rfl (fun h11 => ?_) (fun h11 => ?_)
      · have hf := iff_f hf h11
        exact z_sub [1, 2, 3, 4, 0] rfl (w_Model_hear_73 C hm hf)
      · have hf := iff_t hf h11
        refine z_iconst C d_Model_hear_71 zki_0 ?_
        cases hf
        exact z_zret C rfl rfl (Nat.le_of_ble_eq_true rfl) (Nat.le_of_ble_eq_true rfl) d_Model_hear_72
abbrev rm_Model_note : Room := { frames := 1, cells := 0, slots := 0, locals := 24 }
theorem d_Model_note_0 : decode b_Model_note 0 = .ok (.sipush 179, 3) := by decide +kernel
theorem d_Model_note_3 : decode b_Model_note 3 = .ok (.istore 5, 2) := by decide +kernel
theorem d_Model_note_5 : decode b_Model_note 5 = .ok (.iload 5, 2) := by decide +kernel
theorem d_Model_note_7 : decode b_Model_note 7 = .ok (.bipush 6, 2) := by decide +kernel
theorem d_Model_note_9 : decode b_Model_note 9 = .ok (.if_icmp .lt 34, 3) := by decide +kernel
theorem d_Model_note_12 : decode b_Model_note 12 = .ok (.aload_n 0, 1) := by decide +kernel
theorem d_Model_note_13 : decode b_Model_note 13 = .ok (.getfield 7, 3) := by decide +kernel
theorem d_Model_note_16 : decode b_Model_note 16 = .ok (.sipush 2412, 3) := by decide +kernel
theorem d_Model_note_19 : decode b_Model_note 19 = .ok (.iload 5, 2) := by decide +kernel
theorem d_Model_note_21 : decode b_Model_note 21 = .ok (.iadd, 1) := by decide +kernel
theorem d_Model_note_22 : decode b_Model_note 22 = .ok (.aload_n 0, 1) := by decide +kernel
theorem d_Model_note_23 : decode b_Model_note 23 = .ok (.getfield 7, 3) := by decide +kernel
theorem d_Model_note_26 : decode b_Model_note 26 = .ok (.sipush 2412, 3) := by decide +kernel
theorem d_Model_note_29 : decode b_Model_note 29 = .ok (.iload 5, 2) := by decide +kernel
theorem d_Model_note_31 : decode b_Model_note 31 = .ok (.iadd, 1) := by decide +kernel
theorem d_Model_note_32 : decode b_Model_note 32 = .ok (.bipush 6, 2) := by decide +kernel
theorem d_Model_note_34 : decode b_Model_note 34 = .ok (.isub, 1) := by decide +kernel
theorem d_Model_note_35 : decode b_Model_note 35 = .ok (.iaload, 1) := by decide +kernel
theorem d_Model_note_36 : decode b_Model_note 36 = .ok (.iastore, 1) := by decide +kernel
theorem d_Model_note_37 : decode b_Model_note 37 = .ok (.iinc 5 (-1), 3) := by decide +kernel
theorem d_Model_note_40 : decode b_Model_note 40 = .ok (.goto (-35), 3) := by decide +kernel
theorem d_Model_note_43 : decode b_Model_note 43 = .ok (.aload_n 0, 1) := by decide +kernel
theorem d_Model_note_44 : decode b_Model_note 44 = .ok (.getfield 7, 3) := by decide +kernel
theorem d_Model_note_47 : decode b_Model_note 47 = .ok (.sipush 2412, 3) := by decide +kernel
theorem d_Model_note_50 : decode b_Model_note 50 = .ok (.aload_n 0, 1) := by decide +kernel
theorem d_Model_note_51 : decode b_Model_note 51 = .ok (.getfield 7, 3) := by decide +kernel
theorem d_Model_note_54 : decode b_Model_note 54 = .ok (.bipush 8, 2) := by decide +kernel
theorem d_Model_note_56 : decode b_Model_note 56 = .ok (.iaload, 1) := by decide +kernel
theorem d_Model_note_57 : decode b_Model_note 57 = .ok (.iastore, 1) := by decide +kernel
theorem d_Model_note_58 : decode b_Model_note 58 = .ok (.aload_n 0, 1) := by decide +kernel
theorem d_Model_note_59 : decode b_Model_note 59 = .ok (.getfield 7, 3) := by decide +kernel
theorem d_Model_note_62 : decode b_Model_note 62 = .ok (.sipush 2413, 3) := by decide +kernel
theorem d_Model_note_65 : decode b_Model_note 65 = .ok (.iload_n 1, 1) := by decide +kernel
theorem d_Model_note_66 : decode b_Model_note 66 = .ok (.iastore, 1) := by decide +kernel
theorem d_Model_note_67 : decode b_Model_note 67 = .ok (.aload_n 0, 1) := by decide +kernel
theorem d_Model_note_68 : decode b_Model_note 68 = .ok (.getfield 7, 3) := by decide +kernel
theorem d_Model_note_71 : decode b_Model_note 71 = .ok (.sipush 2414, 3) := by decide +kernel
theorem d_Model_note_74 : decode b_Model_note 74 = .ok (.aload_n 0, 1) := by decide +kernel
theorem d_Model_note_75 : decode b_Model_note 75 = .ok (.iload_n 2, 1) := by decide +kernel
theorem d_Model_note_76 : decode b_Model_note 76 = .ok (.invokevirtual 249, 3) := by decide +kernel
theorem d_Model_note_79 : decode b_Model_note 79 = .ok (.ifCond .eq 7, 3) := by decide +kernel
theorem d_Model_note_82 : decode b_Model_note 82 = .ok (.iconst 1, 1) := by decide +kernel
theorem d_Model_note_83 : decode b_Model_note 83 = .ok (.goto 4, 3) := by decide +kernel
theorem d_Model_note_86 : decode b_Model_note 86 = .ok (.iconst 0, 1) := by decide +kernel
theorem d_Model_note_87 : decode b_Model_note 87 = .ok (.iastore, 1) := by decide +kernel
theorem d_Model_note_88 : decode b_Model_note 88 = .ok (.aload_n 0, 1) := by decide +kernel
theorem d_Model_note_89 : decode b_Model_note 89 = .ok (.getfield 7, 3) := by decide +kernel
theorem d_Model_note_92 : decode b_Model_note 92 = .ok (.sipush 2415, 3) := by decide +kernel
theorem d_Model_note_95 : decode b_Model_note 95 = .ok (.iload_n 2, 1) := by decide +kernel
theorem d_Model_note_96 : decode b_Model_note 96 = .ok (.iconst 2, 1) := by decide +kernel
theorem d_Model_note_97 : decode b_Model_note 97 = .ok (.idiv, 1) := by decide +kernel
theorem d_Model_note_98 : decode b_Model_note 98 = .ok (.iastore, 1) := by decide +kernel
theorem d_Model_note_99 : decode b_Model_note 99 = .ok (.aload_n 0, 1) := by decide +kernel
theorem d_Model_note_100 : decode b_Model_note 100 = .ok (.getfield 7, 3) := by decide +kernel
theorem d_Model_note_103 : decode b_Model_note 103 = .ok (.sipush 2416, 3) := by decide +kernel
theorem d_Model_note_106 : decode b_Model_note 106 = .ok (.iload_n 3, 1) := by decide +kernel
theorem d_Model_note_107 : decode b_Model_note 107 = .ok (.iastore, 1) := by decide +kernel
theorem d_Model_note_108 : decode b_Model_note 108 = .ok (.aload_n 0, 1) := by decide +kernel
theorem d_Model_note_109 : decode b_Model_note 109 = .ok (.getfield 7, 3) := by decide +kernel
theorem d_Model_note_112 : decode b_Model_note 112 = .ok (.sipush 2417, 3) := by decide +kernel
theorem d_Model_note_115 : decode b_Model_note 115 = .ok (.iload 4, 2) := by decide +kernel
theorem d_Model_note_117 : decode b_Model_note 117 = .ok (.iastore, 1) := by decide +kernel
theorem d_Model_note_118 : decode b_Model_note 118 = .ok (.aload_n 0, 1) := by decide +kernel
theorem d_Model_note_119 : decode b_Model_note 119 = .ok (.getfield 7, 3) := by decide +kernel
theorem d_Model_note_122 : decode b_Model_note 122 = .ok (.bipush 11, 2) := by decide +kernel
theorem d_Model_note_124 : decode b_Model_note 124 = .ok (.bipush 30, 2) := by decide +kernel
theorem d_Model_note_126 : decode b_Model_note 126 = .ok (.aload_n 0, 1) := by decide +kernel
theorem d_Model_note_127 : decode b_Model_note 127 = .ok (.getfield 7, 3) := by decide +kernel
theorem d_Model_note_130 : decode b_Model_note 130 = .ok (.bipush 11, 2) := by decide +kernel
theorem d_Model_note_132 : decode b_Model_note 132 = .ok (.iaload, 1) := by decide +kernel
theorem d_Model_note_133 : decode b_Model_note 133 = .ok (.iconst 1, 1) := by decide +kernel
theorem d_Model_note_134 : decode b_Model_note 134 = .ok (.iadd, 1) := by decide +kernel
theorem d_Model_note_135 : decode b_Model_note 135 = .ok (.invokestatic 194, 3) := by decide +kernel
theorem d_Model_note_138 : decode b_Model_note 138 = .ok (.iastore, 1) := by decide +kernel
theorem d_Model_note_139 : decode b_Model_note 139 = .ok (.return_, 1) := by decide +kernel
def L_Model_note : Nat → Nat → Int32 → Int32 → Int32 → Int32 → Int32 → Int32 → Int32 → zSt → Option (zSt)
  | 0, _, _, _, _, _, _, _, _, _ => none
  | n + 1, 0, x1, x2, x3, x4, x5, y1, y2, σ => if x5 < (6 : Int32) then ((F_Model_isCorrection x2 (zst (zst σ 4 81 2412 (σ.1 4 81 8)) 4 81 2413 x1)).bind fun r2 => if r2 = 0 then L_Model_note n 1 0 x2 x3 x4 0 (2414 : Int32) (0 : Int32) (zst (zst σ 4 81 2412 (σ.1 4 81 8)) 4 81 2413 x1) else L_Model_note n 1 0 x2 x3 x4 0 (2414 : Int32) (1 : Int32) (zst (zst σ 4 81 2412 (σ.1 4 81 8)) 4 81 2413 x1)) else (if inb (((2412 : Int32) + x5) - (6 : Int32)) 2592 = true then (if inb ((2412 : Int32) + x5) 2592 = true then L_Model_note n 0 x1 x2 x3 x4 (x5 + (-1 : Int32)) 0 0 (zst σ 4 81 ((2412 : Int32) + x5).toNatClampNeg (σ.1 4 81 (((2412 : Int32) + x5) - (6 : Int32)).toNatClampNeg)) else none) else none)
  | n + 1, 1, x1, x2, x3, x4, x5, y1, y2, σ => if inb y1 2592 = true then some (zst (zst (zst (zst (zst σ 4 81 y1.toNatClampNeg y2) 4 81 2415 (x2 / (2 : Int32))) 4 81 2416 x3) 4 81 2417 x4) 4 81 11 (if (((zst (zst (zst (zst σ 4 81 y1.toNatClampNeg y2) 4 81 2415 (x2 / (2 : Int32))) 4 81 2416 x3) 4 81 2417 x4).1 4 81 11) + (1 : Int32)) < (30 : Int32) then (((zst (zst (zst (zst σ 4 81 y1.toNatClampNeg y2) 4 81 2415 (x2 / (2 : Int32))) 4 81 2416 x3) 4 81 2417 x4).1 4 81 11) + (1 : Int32)) else (30 : Int32))) else none
  | _ + 1, _, _, _, _, _, _, _, _, _ => none
theorem e_Model_note_0 (n : Nat) (x1 : Int32) (x2 : Int32) (x3 : Int32) (x4 : Int32) (x5 : Int32) (y1 : Int32) (y2 : Int32) (σ : zSt) : L_Model_note (n + 1) 0 x1 x2 x3 x4 x5 y1 y2 σ = (if x5 < (6 : Int32) then ((F_Model_isCorrection x2 (zst (zst σ 4 81 2412 (σ.1 4 81 8)) 4 81 2413 x1)).bind fun r2 => if r2 = 0 then L_Model_note n 1 0 x2 x3 x4 0 (2414 : Int32) (0 : Int32) (zst (zst σ 4 81 2412 (σ.1 4 81 8)) 4 81 2413 x1) else L_Model_note n 1 0 x2 x3 x4 0 (2414 : Int32) (1 : Int32) (zst (zst σ 4 81 2412 (σ.1 4 81 8)) 4 81 2413 x1)) else (if inb (((2412 : Int32) + x5) - (6 : Int32)) 2592 = true then (if inb ((2412 : Int32) + x5) 2592 = true then L_Model_note n 0 x1 x2 x3 x4 (x5 + (-1 : Int32)) 0 0 (zst σ 4 81 ((2412 : Int32) + x5).toNatClampNeg (σ.1 4 81 (((2412 : Int32) + x5) - (6 : Int32)).toNatClampNeg)) else none) else none)) := rfl
theorem e_Model_note_1 (n : Nat) (x1 : Int32) (x2 : Int32) (x3 : Int32) (x4 : Int32) (x5 : Int32) (y1 : Int32) (y2 : Int32) (σ : zSt) : L_Model_note (n + 1) 1 x1 x2 x3 x4 x5 y1 y2 σ = (if inb y1 2592 = true then some (zst (zst (zst (zst (zst σ 4 81 y1.toNatClampNeg y2) 4 81 2415 (x2 / (2 : Int32))) 4 81 2416 x3) 4 81 2417 x4) 4 81 11 (if (((zst (zst (zst (zst σ 4 81 y1.toNatClampNeg y2) 4 81 2415 (x2 / (2 : Int32))) 4 81 2416 x3) 4 81 2417 x4).1 4 81 11) + (1 : Int32)) < (30 : Int32) then (((zst (zst (zst (zst σ 4 81 y1.toNatClampNeg y2) 4 81 2415 (x2 / (2 : Int32))) 4 81 2416 x3) 4 81 2417 x4).1 4 81 11) + (1 : Int32)) else (30 : Int32))) else none) := rfl
set_option maxHeartbeats 4000000 in
set_option maxRecDepth 100000 in
theorem w_Model_note {l : Launch} {G : zLA} {p : Program} {e : Env} {s : State} {m : MethodId} {args : Array Value} {below : List Frame} {meth : Method} {c : Code} (C : zCx G p s m args meth c "VillageWavesModel" b_Model_note 6 none) (hm : zml G) {σ' : zSt} : ∀ n : Nat, (∀ (x1 : Int32) (x2 : Int32) (x3 : Int32) (x4 : Int32) (x5 : Int32) (y1 : Int32) (y2 : Int32) (σ : zSt), L_Model_note n 0 x1 x2 x3 x4 x5 y1 y2 σ = some σ' → zWV G p l e rm_Model_note s m args below meth c 6 0 0 (zQ G below args s rm_Model_note none σ') 5 [(0, .ref (zad G 4 80)), (1, .int x1), (2, .int x2), (3, .int x3), (4, .int x4), (5, .int x5)] [] σ) ∧ (∀ (x1 : Int32) (x2 : Int32) (x3 : Int32) (x4 : Int32) (x5 : Int32) (y1 : Int32) (y2 : Int32) (σ : zSt), L_Model_note n 1 x1 x2 x3 x4 x5 y1 y2 σ = some σ' → zWV G p l e rm_Model_note s m args below meth c 6 0 0 (zQ G below args s rm_Model_note none σ') 87 [(0, .ref (zad G 4 80)), (2, .int x2), (3, .int x3), (4, .int x4)] [.int y2, .int y1, .ref (zad G 4 81)] σ) := by
  intro n
  induction n with
  | zero => exact ⟨fun _ _ _ _ _ _ _ _ hf => (by cases hf), fun _ _ _ _ _ _ _ _ hf => (by cases hf)⟩
  | succ n ih =>
    refine ⟨?_, ?_⟩
    · intro x1 x2 x3 x4 x5 y1 y2 σ hf
      rw [e_Model_note_0] at hf
      refine z_iload C d_Model_note_5 5 rfl ?_
      refine z_bipush C d_Model_note_7 zkb_6 ?_
      refine z_icmp_lt (tgt := 43) C d_Model_note_9 rfl (fun h6 => ?_) (fun h6 => ?_)
      · have hf := iff_t hf h6
        refine z_aload_n C d_Model_note_43 0 rfl rfl ?_
        refine gf_Model_7 C (zm4 hm 80 rfl) rfl rfl d_Model_note_44 ?_
        refine z_sipush C d_Model_note_47 zks_2412 ?_
        refine z_aload_n C d_Model_note_50 0 rfl rfl ?_
        refine gf_Model_7 C (zm4 hm 80 rfl) rfl rfl d_Model_note_51 ?_
        refine z_bipush C d_Model_note_54 zkb_8 ?_
        refine z_iald C (zm4 hm 81 rfl) rfl (inb_in (by decide)) zc_8 d_Model_note_56 ?_
        refine z_iast C (zm4 hm 81 rfl) (fun _ _ _ => rfl) (inb_in (by decide)) zc_2412 d_Model_note_57 ?_
        refine z_aload_n C d_Model_note_58 0 rfl rfl ?_
        refine gf_Model_7 C (zm4 hm 80 rfl) rfl rfl d_Model_note_59 ?_
        refine z_sipush C d_Model_note_62 zks_2413 ?_
        refine z_iload_n C d_Model_note_65 1 rfl rfl ?_
        refine z_iast C (zm4 hm 81 rfl) (fun _ _ _ => rfl) (inb_in (by decide)) zc_2413 d_Model_note_66 ?_
        refine z_aload_n C d_Model_note_67 0 rfl rfl ?_
        refine gf_Model_7 C (zm4 hm 80 rfl) rfl rfl d_Model_note_68 ?_
        refine z_sipush C d_Model_note_71 zks_2414 ?_
        refine z_aload_n C d_Model_note_74 0 rfl rfl ?_
        refine z_iload_n C d_Model_note_75 2 rfl rfl ?_
        obtain ⟨r2, h1, hf⟩ := bd_s hf
        refine z_cVi C kl_Model_249 rfl (c_Model_isCorrection hm h1) (zm4 hm 80 rfl) rfl rfl rfl (Nat.le_of_ble_eq_true rfl) ⟨(Nat.le_of_ble_eq_true rfl), (Nat.le_of_ble_eq_true rfl)⟩ ⟨(Nat.le_of_ble_eq_true rfl), (Nat.le_of_ble_eq_true rfl)⟩ d_Model_note_76 ?_
        refine z_if_eq (tgt := 86) C d_Model_note_79 rfl (fun h3 => ?_) (fun h3 => ?_)
        · have hf := iff_t hf h3
          refine z_iconst C d_Model_note_86 zki_0 ?_
          exact z_sub [0, 2, 3, 4] rfl (ih.2 _ _ _ _ _ _ _ _ hf)
        · have hf := iff_f hf h3
          refine z_iconst C d_Model_note_82 zki_1 ?_
          refine z_goto (tgt := 87) C d_Model_note_83 rfl ?_
          exact z_sub [0, 2, 3, 4] rfl (ih.2 _ _ _ _ _ _ _ _ hf)
      · have hf := iff_f hf h6
        refine z_aload_n C d_Model_note_12 0 rfl rfl ?_
        refine gf_Model_7 C (zm4 hm 80 rfl) rfl rfl d_Model_note_13 ?_
        refine z_sipush C d_Model_note_16 zks_2412 ?_
        refine z_iload C d_Model_note_19 5 rfl ?_
        refine z_iadd C d_Model_note_21 ?_
        refine z_aload_n C d_Model_note_22 0 rfl rfl ?_
        refine gf_Model_7 C (zm4 hm 80 rfl) rfl rfl d_Model_note_23 ?_
        refine z_sipush C d_Model_note_26 zks_2412 ?_
        refine z_iload C d_Model_note_29 5 rfl ?_
        refine z_iadd C d_Model_note_31 ?_
        refine z_bipush C d_Model_note_32 zkb_6 ?_
        refine z_isub C d_Model_note_34 ?_
        obtain ⟨h5, hf⟩ := iff_g hf
        refine z_iald C (zm4 hm 81 rfl) rfl (inb_in h5) rfl d_Model_note_35 ?_
        obtain ⟨h4, hf⟩ := iff_g hf
        refine z_iast C (zm4 hm 81 rfl) (fun _ _ _ => rfl) (inb_in h4) rfl d_Model_note_36 ?_
        refine z_iinc C d_Model_note_37 5 rfl zki_m1 (by decide) ?_
        refine z_goto (tgt := 5) C d_Model_note_40 rfl ?_
        exact z_sub [1, 2, 3, 4, 5, 0] rfl (ih.1 _ _ _ _ _ _ _ _ hf)
    · intro x1 x2 x3 x4 x5 y1 y2 σ hf
      rw [e_Model_note_1] at hf
      obtain ⟨h7, hf⟩ := iff_g hf
      refine z_iast C (zm4 hm 81 rfl) (fun _ _ _ => rfl) (inb_in h7) rfl d_Model_note_87 ?_
      refine z_aload_n C d_Model_note_88 0 rfl rfl ?_
      refine gf_Model_7 C (zm4 hm 80 rfl) rfl rfl d_Model_note_89 ?_
      refine z_sipush C d_Model_note_92 zks_2415 ?_
      refine z_iload_n C d_Model_note_95 1 rfl rfl ?_
      refine z_iconst C d_Model_note_96 zki_2 ?_
      refine z_idiv C d_Model_note_97 (by decide) ?_
      refine z_iast C (zm4 hm 81 rfl) (fun _ _ _ => rfl) (inb_in (by decide)) zc_2415 d_Model_note_98 ?_
      refine z_aload_n C d_Model_note_99 0 rfl rfl ?_
      refine gf_Model_7 C (zm4 hm 80 rfl) rfl rfl d_Model_note_100 ?_
      refine z_sipush C d_Model_note_103 zks_2416 ?_
      refine z_iload_n C d_Model_note_106 2 rfl rfl ?_
      refine z_iast C (zm4 hm 81 rfl) (fun _ _ _ => rfl) (inb_in (by decide)) zc_2416 d_Model_note_107 ?_
      refine z_aload_n C d_Model_note_108 0 rfl rfl ?_
      refine gf_Model_7 C (zm4 hm 80 rfl) rfl rfl d_Model_note_109 ?_
      refine z_sipush C d_Model_note_112 zks_2417 ?_
      refine z_iload C d_Model_note_115 3 rfl ?_
      refine z_iast C (zm4 hm 81 rfl) (fun _ _ _ => rfl) (inb_in (by decide)) zc_2417 d_Model_note_117 ?_
      refine z_aload_n C d_Model_note_118 0 rfl rfl ?_
      refine gf_Model_7 C (zm4 hm 80 rfl) rfl rfl d_Model_note_119 ?_
      refine z_bipush C d_Model_note_122 zkb_11 ?_
      refine z_bipush C d_Model_note_124 zkb_30 ?_
      refine z_aload_n C d_Model_note_126 0 rfl rfl ?_
      refine gf_Model_7 C (zm4 hm 80 rfl) rfl rfl d_Model_note_127 ?_
      refine z_bipush C d_Model_note_130 zkb_11 ?_
      refine z_iald C (zm4 hm 81 rfl) rfl (inb_in (by decide)) zc_11 d_Model_note_132 ?_
      refine z_iconst C d_Model_note_133 zki_1 ?_
      refine z_iadd C d_Model_note_134 ?_
      refine z_mmin C zq1496 rfl (Nat.le_of_ble_eq_true rfl) (Nat.le_of_ble_eq_true rfl) (Nat.le_of_ble_eq_true rfl) (Nat.le_of_ble_eq_true rfl) (Nat.le_of_ble_eq_true rfl) d_Model_note_135 ?_
      refine z_iast C (zm4 hm 81 rfl) (fun _ _ _ => rfl) (inb_in (by decide)) zc_11 d_Model_note_138 ?_
      cases hf
      exact z_vret C rfl (Nat.le_of_ble_eq_true rfl) (Nat.le_of_ble_eq_true rfl) d_Model_note_139
def F_Model_note (a0 : Int32) (a1 : Int32) (a2 : Int32) (a3 : Int32) (σ : zSt) : Option (zSt) :=
  L_Model_note zK 0 a0 a1 a2 a3 (179 : Int32) 0 0 σ
set_option maxHeartbeats 4000000 in
set_option maxRecDepth 100000 in
theorem c_Model_note {l : Launch} {G : zLA} (hm : zml G) {a0 : Int32} {a1 : Int32} {a2 : Int32} {a3 : Int32} {σ : zSt} {σ' : zSt} (hf : F_Model_note a0 a1 a2 a3 σ = some σ') : zM l G y_Model_note (zws y_Model_note b_Model_note 6 none) rm_Model_note [.ref (zad G 4 80), .int a0, .int a1, .int a2, .int a3] σ none σ' := by
  refine z_ofM (own := "VillageWavesModel") (lv := [(0, .ref (zad G 4 80)), (1, .int a0), (2, .int a1), (3, .int a2), (4, .int a3)]) (by decide +kernel) rfl rfl (Nat.le_of_ble_eq_true rfl) (fun p e s m args below meth c C => ?_)
  rw [F_Model_note] at hf
  refine z_sipush C d_Model_note_0 zks_179 ?_
  refine z_istore C d_Model_note_3 (by decide) ?_
  exact z_sub [1, 2, 3, 4, 5, 0] rfl ((w_Model_note C hm zK).1 _ _ _ _ _ _ _ _ hf)
abbrev rm_Model_speak : Room := { frames := 7, cells := 0, slots := 0, locals := 157 }
theorem d_Model_speak_0 : decode b_Model_speak 0 = .ok (.aload_n 0, 1) := by decide +kernel
theorem d_Model_speak_1 : decode b_Model_speak 1 = .ok (.iload_n 1, 1) := by decide +kernel
theorem d_Model_speak_2 : decode b_Model_speak 2 = .ok (.invokevirtual 295, 3) := by decide +kernel
theorem d_Model_speak_5 : decode b_Model_speak 5 = .ok (.istore_n 2, 1) := by decide +kernel
theorem d_Model_speak_6 : decode b_Model_speak 6 = .ok (.aload_n 0, 1) := by decide +kernel
theorem d_Model_speak_7 : decode b_Model_speak 7 = .ok (.iload_n 1, 1) := by decide +kernel
theorem d_Model_speak_8 : decode b_Model_speak 8 = .ok (.iconst 3, 1) := by decide +kernel
theorem d_Model_speak_9 : decode b_Model_speak 9 = .ok (.aload_n 0, 1) := by decide +kernel
theorem d_Model_speak_10 : decode b_Model_speak 10 = .ok (.iload_n 1, 1) := by decide +kernel
theorem d_Model_speak_11 : decode b_Model_speak 11 = .ok (.iconst 3, 1) := by decide +kernel
theorem d_Model_speak_12 : decode b_Model_speak 12 = .ok (.invokevirtual 191, 3) := by decide +kernel
theorem d_Model_speak_15 : decode b_Model_speak 15 = .ok (.aload_n 0, 1) := by decide +kernel
theorem d_Model_speak_16 : decode b_Model_speak 16 = .ok (.getfield 7, 3) := by decide +kernel
theorem d_Model_speak_19 : decode b_Model_speak 19 = .ok (.iconst 0, 1) := by decide +kernel
theorem d_Model_speak_20 : decode b_Model_speak 20 = .ok (.iaload, 1) := by decide +kernel
theorem d_Model_speak_21 : decode b_Model_speak 21 = .ok (.isub, 1) := by decide +kernel
theorem d_Model_speak_22 : decode b_Model_speak 22 = .ok (.invokevirtual 140, 3) := by decide +kernel
theorem d_Model_speak_25 : decode b_Model_speak 25 = .ok (.aload_n 0, 1) := by decide +kernel
theorem d_Model_speak_26 : decode b_Model_speak 26 = .ok (.iload_n 1, 1) := by decide +kernel
theorem d_Model_speak_27 : decode b_Model_speak 27 = .ok (.bipush 7, 2) := by decide +kernel
theorem d_Model_speak_29 : decode b_Model_speak 29 = .ok (.aload_n 0, 1) := by decide +kernel
theorem d_Model_speak_30 : decode b_Model_speak 30 = .ok (.iload_n 1, 1) := by decide +kernel
theorem d_Model_speak_31 : decode b_Model_speak 31 = .ok (.bipush 7, 2) := by decide +kernel
theorem d_Model_speak_33 : decode b_Model_speak 33 = .ok (.invokevirtual 191, 3) := by decide +kernel
theorem d_Model_speak_36 : decode b_Model_speak 36 = .ok (.iconst 1, 1) := by decide +kernel
theorem d_Model_speak_37 : decode b_Model_speak 37 = .ok (.iadd, 1) := by decide +kernel
theorem d_Model_speak_38 : decode b_Model_speak 38 = .ok (.invokevirtual 140, 3) := by decide +kernel
theorem d_Model_speak_41 : decode b_Model_speak 41 = .ok (.aload_n 0, 1) := by decide +kernel
theorem d_Model_speak_42 : decode b_Model_speak 42 = .ok (.iload_n 1, 1) := by decide +kernel
theorem d_Model_speak_43 : decode b_Model_speak 43 = .ok (.bipush 8, 2) := by decide +kernel
theorem d_Model_speak_45 : decode b_Model_speak 45 = .ok (.aload_n 0, 1) := by decide +kernel
theorem d_Model_speak_46 : decode b_Model_speak 46 = .ok (.iload_n 1, 1) := by decide +kernel
theorem d_Model_speak_47 : decode b_Model_speak 47 = .ok (.bipush 8, 2) := by decide +kernel
theorem d_Model_speak_49 : decode b_Model_speak 49 = .ok (.invokevirtual 191, 3) := by decide +kernel
theorem d_Model_speak_52 : decode b_Model_speak 52 = .ok (.iconst 1, 1) := by decide +kernel
theorem d_Model_speak_53 : decode b_Model_speak 53 = .ok (.iadd, 1) := by decide +kernel
theorem d_Model_speak_54 : decode b_Model_speak 54 = .ok (.invokevirtual 140, 3) := by decide +kernel
theorem d_Model_speak_57 : decode b_Model_speak 57 = .ok (.aload_n 0, 1) := by decide +kernel
theorem d_Model_speak_58 : decode b_Model_speak 58 = .ok (.getfield 7, 3) := by decide +kernel
theorem d_Model_speak_61 : decode b_Model_speak 61 = .ok (.bipush 10, 2) := by decide +kernel
theorem d_Model_speak_63 : decode b_Model_speak 63 = .ok (.dup2, 1) := by decide +kernel
theorem d_Model_speak_64 : decode b_Model_speak 64 = .ok (.iaload, 1) := by decide +kernel
theorem d_Model_speak_65 : decode b_Model_speak 65 = .ok (.iconst 1, 1) := by decide +kernel
theorem d_Model_speak_66 : decode b_Model_speak 66 = .ok (.iadd, 1) := by decide +kernel
theorem d_Model_speak_67 : decode b_Model_speak 67 = .ok (.iastore, 1) := by decide +kernel
theorem d_Model_speak_68 : decode b_Model_speak 68 = .ok (.aload_n 0, 1) := by decide +kernel
theorem d_Model_speak_69 : decode b_Model_speak 69 = .ok (.dup, 1) := by decide +kernel
theorem d_Model_speak_70 : decode b_Model_speak 70 = .ok (.getfield 319, 3) := by decide +kernel
theorem d_Model_speak_73 : decode b_Model_speak 73 = .ok (.aload_n 0, 1) := by decide +kernel
theorem d_Model_speak_74 : decode b_Model_speak 74 = .ok (.getfield 7, 3) := by decide +kernel
theorem d_Model_speak_77 : decode b_Model_speak 77 = .ok (.iconst 0, 1) := by decide +kernel
theorem d_Model_speak_78 : decode b_Model_speak 78 = .ok (.iaload, 1) := by decide +kernel
theorem d_Model_speak_79 : decode b_Model_speak 79 = .ok (.iadd, 1) := by decide +kernel
theorem d_Model_speak_80 : decode b_Model_speak 80 = .ok (.putfield 319, 3) := by decide +kernel
theorem d_Model_speak_83 : decode b_Model_speak 83 = .ok (.iconst 0, 1) := by decide +kernel
theorem d_Model_speak_84 : decode b_Model_speak 84 = .ok (.istore_n 3, 1) := by decide +kernel
theorem d_Model_speak_85 : decode b_Model_speak 85 = .ok (.iconst 0, 1) := by decide +kernel
theorem d_Model_speak_86 : decode b_Model_speak 86 = .ok (.istore 4, 2) := by decide +kernel
theorem d_Model_speak_88 : decode b_Model_speak 88 = .ok (.iconst 0, 1) := by decide +kernel
theorem d_Model_speak_89 : decode b_Model_speak 89 = .ok (.istore 5, 2) := by decide +kernel
theorem d_Model_speak_91 : decode b_Model_speak 91 = .ok (.iload 5, 2) := by decide +kernel
theorem d_Model_speak_93 : decode b_Model_speak 93 = .ok (.aload_n 0, 1) := by decide +kernel
theorem d_Model_speak_94 : decode b_Model_speak 94 = .ok (.getfield 7, 3) := by decide +kernel
theorem d_Model_speak_97 : decode b_Model_speak 97 = .ok (.bipush 6, 2) := by decide +kernel
theorem d_Model_speak_99 : decode b_Model_speak 99 = .ok (.iaload, 1) := by decide +kernel
theorem d_Model_speak_100 : decode b_Model_speak 100 = .ok (.if_icmp .ge 75, 3) := by decide +kernel
theorem d_Model_speak_103 : decode b_Model_speak 103 = .ok (.aload_n 0, 1) := by decide +kernel
theorem d_Model_speak_104 : decode b_Model_speak 104 = .ok (.iload_n 1, 1) := by decide +kernel
theorem d_Model_speak_105 : decode b_Model_speak 105 = .ok (.iload 5, 2) := by decide +kernel
theorem d_Model_speak_107 : decode b_Model_speak 107 = .ok (.invokevirtual 234, 3) := by decide +kernel
theorem d_Model_speak_110 : decode b_Model_speak 110 = .ok (.ifCond .eq 59, 3) := by decide +kernel
theorem d_Model_speak_113 : decode b_Model_speak 113 = .ok (.aload_n 0, 1) := by decide +kernel
theorem d_Model_speak_114 : decode b_Model_speak 114 = .ok (.iload 5, 2) := by decide +kernel
theorem d_Model_speak_116 : decode b_Model_speak 116 = .ok (.invokevirtual 206, 3) := by decide +kernel
theorem d_Model_speak_119 : decode b_Model_speak 119 = .ok (.ifCond .ne 50, 3) := by decide +kernel
theorem d_Model_speak_122 : decode b_Model_speak 122 = .ok (.aload_n 0, 1) := by decide +kernel
theorem d_Model_speak_123 : decode b_Model_speak 123 = .ok (.iload 5, 2) := by decide +kernel
theorem d_Model_speak_125 : decode b_Model_speak 125 = .ok (.iconst 3, 1) := by decide +kernel
theorem d_Model_speak_126 : decode b_Model_speak 126 = .ok (.invokevirtual 191, 3) := by decide +kernel
theorem d_Model_speak_129 : decode b_Model_speak 129 = .ok (.aload_n 0, 1) := by decide +kernel
theorem d_Model_speak_130 : decode b_Model_speak 130 = .ok (.getfield 7, 3) := by decide +kernel
theorem d_Model_speak_133 : decode b_Model_speak 133 = .ok (.iconst 1, 1) := by decide +kernel
theorem d_Model_speak_134 : decode b_Model_speak 134 = .ok (.iaload, 1) := by decide +kernel
theorem d_Model_speak_135 : decode b_Model_speak 135 = .ok (.if_icmp .lt 34, 3) := by decide +kernel
theorem d_Model_speak_138 : decode b_Model_speak 138 = .ok (.iload_n 3, 1) := by decide +kernel
theorem d_Model_speak_139 : decode b_Model_speak 139 = .ok (.iconst 1, 1) := by decide +kernel
theorem d_Model_speak_140 : decode b_Model_speak 140 = .ok (.iload 5, 2) := by decide +kernel
theorem d_Model_speak_142 : decode b_Model_speak 142 = .ok (.ishl, 1) := by decide +kernel
theorem d_Model_speak_143 : decode b_Model_speak 143 = .ok (.iadd, 1) := by decide +kernel
theorem d_Model_speak_144 : decode b_Model_speak 144 = .ok (.istore_n 3, 1) := by decide +kernel
theorem d_Model_speak_145 : decode b_Model_speak 145 = .ok (.iload 4, 2) := by decide +kernel
theorem d_Model_speak_147 : decode b_Model_speak 147 = .ok (.aload_n 0, 1) := by decide +kernel
theorem d_Model_speak_148 : decode b_Model_speak 148 = .ok (.iload 5, 2) := by decide +kernel
theorem d_Model_speak_150 : decode b_Model_speak 150 = .ok (.iload_n 1, 1) := by decide +kernel
theorem d_Model_speak_151 : decode b_Model_speak 151 = .ok (.iload_n 2, 1) := by decide +kernel
theorem d_Model_speak_152 : decode b_Model_speak 152 = .ok (.invokevirtual 328, 3) := by decide +kernel
theorem d_Model_speak_155 : decode b_Model_speak 155 = .ok (.ifCond .eq 10, 3) := by decide +kernel
theorem d_Model_speak_158 : decode b_Model_speak 158 = .ok (.iconst 1, 1) := by decide +kernel
theorem d_Model_speak_159 : decode b_Model_speak 159 = .ok (.iload 5, 2) := by decide +kernel
theorem d_Model_speak_161 : decode b_Model_speak 161 = .ok (.ishl, 1) := by decide +kernel
theorem d_Model_speak_162 : decode b_Model_speak 162 = .ok (.goto 4, 3) := by decide +kernel
theorem d_Model_speak_165 : decode b_Model_speak 165 = .ok (.iconst 0, 1) := by decide +kernel
theorem d_Model_speak_166 : decode b_Model_speak 166 = .ok (.iadd, 1) := by decide +kernel
theorem d_Model_speak_167 : decode b_Model_speak 167 = .ok (.istore 4, 2) := by decide +kernel
theorem d_Model_speak_169 : decode b_Model_speak 169 = .ok (.iinc 5 1, 3) := by decide +kernel
theorem d_Model_speak_172 : decode b_Model_speak 172 = .ok (.goto (-81), 3) := by decide +kernel
theorem d_Model_speak_175 : decode b_Model_speak 175 = .ok (.aload_n 0, 1) := by decide +kernel
theorem d_Model_speak_176 : decode b_Model_speak 176 = .ok (.iload_n 1, 1) := by decide +kernel
theorem d_Model_speak_177 : decode b_Model_speak 177 = .ok (.iload_n 2, 1) := by decide +kernel
theorem d_Model_speak_178 : decode b_Model_speak 178 = .ok (.iload_n 3, 1) := by decide +kernel
theorem d_Model_speak_179 : decode b_Model_speak 179 = .ok (.iload 4, 2) := by decide +kernel
theorem d_Model_speak_181 : decode b_Model_speak 181 = .ok (.invokevirtual 331, 3) := by decide +kernel
theorem d_Model_speak_184 : decode b_Model_speak 184 = .ok (.aload_n 0, 1) := by decide +kernel
theorem d_Model_speak_185 : decode b_Model_speak 185 = .ok (.iload_n 2, 1) := by decide +kernel
theorem d_Model_speak_186 : decode b_Model_speak 186 = .ok (.invokevirtual 249, 3) := by decide +kernel
theorem d_Model_speak_189 : decode b_Model_speak 189 = .ok (.ifCond .eq 25, 3) := by decide +kernel
theorem d_Model_speak_192 : decode b_Model_speak 192 = .ok (.aload_n 0, 1) := by decide +kernel
theorem d_Model_speak_193 : decode b_Model_speak 193 = .ok (.iload_n 1, 1) := by decide +kernel
theorem d_Model_speak_194 : decode b_Model_speak 194 = .ok (.iload_n 2, 1) := by decide +kernel
theorem d_Model_speak_195 : decode b_Model_speak 195 = .ok (.iconst 2, 1) := by decide +kernel
theorem d_Model_speak_196 : decode b_Model_speak 196 = .ok (.idiv, 1) := by decide +kernel
theorem d_Model_speak_197 : decode b_Model_speak 197 = .ok (.bipush 8, 2) := by decide +kernel
theorem d_Model_speak_199 : decode b_Model_speak 199 = .ok (.aload_n 0, 1) := by decide +kernel
theorem d_Model_speak_200 : decode b_Model_speak 200 = .ok (.getfield 7, 3) := by decide +kernel
theorem d_Model_speak_203 : decode b_Model_speak 203 = .ok (.bipush 8, 2) := by decide +kernel
theorem d_Model_speak_205 : decode b_Model_speak 205 = .ok (.iaload, 1) := by decide +kernel
theorem d_Model_speak_206 : decode b_Model_speak 206 = .ok (.iconst 1, 1) := by decide +kernel
theorem d_Model_speak_207 : decode b_Model_speak 207 = .ok (.iadd, 1) := by decide +kernel
theorem d_Model_speak_208 : decode b_Model_speak 208 = .ok (.invokevirtual 184, 3) := by decide +kernel
theorem d_Model_speak_211 : decode b_Model_speak 211 = .ok (.goto 13, 3) := by decide +kernel
theorem d_Model_speak_214 : decode b_Model_speak 214 = .ok (.aload_n 0, 1) := by decide +kernel
theorem d_Model_speak_215 : decode b_Model_speak 215 = .ok (.iload_n 1, 1) := by decide +kernel
theorem d_Model_speak_216 : decode b_Model_speak 216 = .ok (.iload_n 2, 1) := by decide +kernel
theorem d_Model_speak_217 : decode b_Model_speak 217 = .ok (.iconst 2, 1) := by decide +kernel
theorem d_Model_speak_218 : decode b_Model_speak 218 = .ok (.idiv, 1) := by decide +kernel
theorem d_Model_speak_219 : decode b_Model_speak 219 = .ok (.iconst 4, 1) := by decide +kernel
theorem d_Model_speak_220 : decode b_Model_speak 220 = .ok (.iconst 0, 1) := by decide +kernel
theorem d_Model_speak_221 : decode b_Model_speak 221 = .ok (.invokevirtual 184, 3) := by decide +kernel
theorem d_Model_speak_224 : decode b_Model_speak 224 = .ok (.return_, 1) := by decide +kernel
def L_Model_speak : Nat → Nat → Int32 → Int32 → Int32 → Int32 → Int32 → zSt → Option (zSt)
  | 0, _, _, _, _, _, _, _ => none
  | n + 1, 0, x1, x2, x3, x4, x5, σ => if (σ.1 4 81 6) ≤ x5 then ((F_Model_note x1 x2 x3 x4 σ).bind fun σ17 => (F_Model_isCorrection x2 σ17).bind fun r19 => if r19 = 0 then ((F_Model_setPair x1 (x2 / (2 : Int32)) (4 : Int32) (0 : Int32) σ17).bind fun σ21 => some σ21) else ((F_Model_setPair x1 (x2 / (2 : Int32)) (8 : Int32) ((σ17.1 4 81 8) + (1 : Int32)) σ17).bind fun σ23 => some σ23)) else ((F_Model_isInRange x1 x5 σ).bind fun r26 => if r26 = 0 then L_Model_speak n 0 x1 x2 x3 x4 (x5 + (1 : Int32)) σ else ((F_Model_isQuiet x5 σ).bind fun r28 => if r28 = 0 then ((F_Model_of x5 (3 : Int32) σ).bind fun r30 => if r30 < (σ.1 4 81 1) then L_Model_speak n 0 x1 x2 x3 x4 (x5 + (1 : Int32)) σ else (bd2 (F_Model_hear x5 x1 x2 σ) fun r32 σ33 => if r32 = 0 then L_Model_speak n 0 x1 x2 (x3 + ((1 : Int32) <<< (x5 &&& 31))) (x4 + (0 : Int32)) (x5 + (1 : Int32)) σ33 else L_Model_speak n 0 x1 x2 (x3 + ((1 : Int32) <<< (x5 &&& 31))) (x4 + ((1 : Int32) <<< (x5 &&& 31))) (x5 + (1 : Int32)) σ33)) else L_Model_speak n 0 x1 x2 x3 x4 (x5 + (1 : Int32)) σ))
  | _ + 1, _, _, _, _, _, _, _ => none
theorem e_Model_speak_0 (n : Nat) (x1 : Int32) (x2 : Int32) (x3 : Int32) (x4 : Int32) (x5 : Int32) (σ : zSt) : L_Model_speak (n + 1) 0 x1 x2 x3 x4 x5 σ = (if (σ.1 4 81 6) ≤ x5 then ((F_Model_note x1 x2 x3 x4 σ).bind fun σ17 => (F_Model_isCorrection x2 σ17).bind fun r19 => if r19 = 0 then ((F_Model_setPair x1 (x2 / (2 : Int32)) (4 : Int32) (0 : Int32) σ17).bind fun σ21 => some σ21) else ((F_Model_setPair x1 (x2 / (2 : Int32)) (8 : Int32) ((σ17.1 4 81 8) + (1 : Int32)) σ17).bind fun σ23 => some σ23)) else ((F_Model_isInRange x1 x5 σ).bind fun r26 => if r26 = 0 then L_Model_speak n 0 x1 x2 x3 x4 (x5 + (1 : Int32)) σ else ((F_Model_isQuiet x5 σ).bind fun r28 => if r28 = 0 then ((F_Model_of x5 (3 : Int32) σ).bind fun r30 => if r30 < (σ.1 4 81 1) then L_Model_speak n 0 x1 x2 x3 x4 (x5 + (1 : Int32)) σ else (bd2 (F_Model_hear x5 x1 x2 σ) fun r32 σ33 => if r32 = 0 then L_Model_speak n 0 x1 x2 (x3 + ((1 : Int32) <<< (x5 &&& 31))) (x4 + (0 : Int32)) (x5 + (1 : Int32)) σ33 else L_Model_speak n 0 x1 x2 (x3 + ((1 : Int32) <<< (x5 &&& 31))) (x4 + ((1 : Int32) <<< (x5 &&& 31))) (x5 + (1 : Int32)) σ33)) else L_Model_speak n 0 x1 x2 x3 x4 (x5 + (1 : Int32)) σ))) := rfl
set_option maxHeartbeats 4000000 in
set_option maxRecDepth 100000 in
theorem w_Model_speak {l : Launch} {G : zLA} {p : Program} {e : Env} {s : State} {m : MethodId} {args : Array Value} {below : List Frame} {meth : Method} {c : Code} (C : zCx G p s m args meth c "VillageWavesModel" b_Model_speak 6 none) (hm : zml G) {σ' : zSt} : ∀ n : Nat, (∀ (x1 : Int32) (x2 : Int32) (x3 : Int32) (x4 : Int32) (x5 : Int32) (σ : zSt), L_Model_speak n 0 x1 x2 x3 x4 x5 σ = some σ' → zWV G p l e rm_Model_speak s m args below meth c 6 0 0 (zQ G below args s rm_Model_speak none σ') 91 [(0, .ref (zad G 4 80)), (1, .int x1), (2, .int x2), (3, .int x3), (4, .int x4), (5, .int x5)] [] σ) := by
  intro n
  induction n with
  | zero => exact fun _ _ _ _ _ _ hf => (by cases hf)
  | succ n ih =>
    refine ?_
    · intro x1 x2 x3 x4 x5 σ hf
      rw [e_Model_speak_0] at hf
      refine z_iload C d_Model_speak_91 5 rfl ?_
      refine z_aload_n C d_Model_speak_93 0 rfl rfl ?_
      refine gf_Model_7 C (zm4 hm 80 rfl) rfl rfl d_Model_speak_94 ?_
      refine z_bipush C d_Model_speak_97 zkb_6 ?_
      refine z_iald C (zm4 hm 81 rfl) rfl (inb_in (by decide)) zc_6 d_Model_speak_99 ?_
      refine z_icmp_ge (tgt := 175) C d_Model_speak_100 rfl (fun h38 => ?_) (fun h38 => ?_)
      · have hf := iff_t hf h38
        refine z_aload_n C d_Model_speak_175 0 rfl rfl ?_
        refine z_iload_n C d_Model_speak_176 1 rfl rfl ?_
        refine z_iload_n C d_Model_speak_177 2 rfl rfl ?_
        refine z_iload_n C d_Model_speak_178 3 rfl rfl ?_
        refine z_iload C d_Model_speak_179 4 rfl ?_
        obtain ⟨σ17, h16, hf⟩ := bd_s hf
        refine z_cVv C kl_Model_331 rfl (c_Model_note hm h16) (zm4 hm 80 rfl) rfl rfl rfl (Nat.le_of_ble_eq_true rfl) ⟨(Nat.le_of_ble_eq_true rfl), (Nat.le_of_ble_eq_true rfl)⟩ ⟨(Nat.le_of_ble_eq_true rfl), (Nat.le_of_ble_eq_true rfl)⟩ d_Model_speak_181 ?_
        refine z_aload_n C d_Model_speak_184 0 rfl rfl ?_
        refine z_iload_n C d_Model_speak_185 2 rfl rfl ?_
        obtain ⟨r19, h18, hf⟩ := bd_s hf
        refine z_cVi C kl_Model_249 rfl (c_Model_isCorrection hm h18) (zm4 hm 80 rfl) rfl rfl rfl (Nat.le_of_ble_eq_true rfl) ⟨(Nat.le_of_ble_eq_true rfl), (Nat.le_of_ble_eq_true rfl)⟩ ⟨(Nat.le_of_ble_eq_true rfl), (Nat.le_of_ble_eq_true rfl)⟩ d_Model_speak_186 ?_
        refine z_if_eq (tgt := 214) C d_Model_speak_189 rfl (fun h24 => ?_) (fun h24 => ?_)
        · have hf := iff_t hf h24
          refine z_aload_n C d_Model_speak_214 0 rfl rfl ?_
          refine z_iload_n C d_Model_speak_215 1 rfl rfl ?_
          refine z_iload_n C d_Model_speak_216 2 rfl rfl ?_
          refine z_iconst C d_Model_speak_217 zki_2 ?_
          refine z_idiv C d_Model_speak_218 (by decide) ?_
          refine z_iconst C d_Model_speak_219 zki_4 ?_
          refine z_iconst C d_Model_speak_220 zki_0 ?_
          obtain ⟨σ21, h20, hf⟩ := bd_s hf
          refine z_cVv C kl_Model_184 rfl (c_Model_setPair hm h20) (zm4 hm 80 rfl) rfl rfl rfl (Nat.le_of_ble_eq_true rfl) ⟨(Nat.le_of_ble_eq_true rfl), (Nat.le_of_ble_eq_true rfl)⟩ ⟨(Nat.le_of_ble_eq_true rfl), (Nat.le_of_ble_eq_true rfl)⟩ d_Model_speak_221 ?_
          cases hf
          exact z_vret C rfl (Nat.le_of_ble_eq_true rfl) (Nat.le_of_ble_eq_true rfl) d_Model_speak_224
        · have hf := iff_f hf h24
          refine z_aload_n C d_Model_speak_192 0 rfl rfl ?_
          refine z_iload_n C d_Model_speak_193 1 rfl rfl ?_
          refine z_iload_n C d_Model_speak_194 2 rfl rfl ?_
          refine z_iconst C d_Model_speak_195 zki_2 ?_
          refine z_idiv C d_Model_speak_196 (by decide) ?_
          refine z_bipush C d_Model_speak_197 zkb_8 ?_
          refine z_aload_n C d_Model_speak_199 0 rfl rfl ?_
          refine gf_Model_7 C (zm4 hm 80 rfl) rfl rfl d_Model_speak_200 ?_
          refine z_bipush C d_Model_speak_203 zkb_8 ?_
          refine z_iald C (zm4 hm 81 rfl) rfl (inb_in (by decide)) zc_8 d_Model_speak_205 ?_
          refine z_iconst C d_Model_speak_206 zki_1 ?_
          refine z_iadd C d_Model_speak_207 ?_
          obtain ⟨σ23, h22, hf⟩ := bd_s hf
          refine z_cVv C kl_Model_184 rfl (c_Model_setPair hm h22) (zm4 hm 80 rfl) rfl rfl rfl (Nat.le_of_ble_eq_true rfl) ⟨(Nat.le_of_ble_eq_true rfl), (Nat.le_of_ble_eq_true rfl)⟩ ⟨(Nat.le_of_ble_eq_true rfl), (Nat.le_of_ble_eq_true rfl)⟩ d_Model_speak_208 ?_
          refine z_goto (tgt := 224) C d_Model_speak_211 rfl ?_
          cases hf
          exact z_vret C rfl (Nat.le_of_ble_eq_true rfl) (Nat.le_of_ble_eq_true rfl) d_Model_speak_224
      · have hf := iff_f hf h38
        refine z_aload_n C d_Model_speak_103 0 rfl rfl ?_
        refine z_iload_n C d_Model_speak_104 1 rfl rfl ?_
        refine z_iload C d_Model_speak_105 5 rfl ?_
        obtain ⟨r26, h25, hf⟩ := bd_s hf
        refine z_cVi C kl_Model_234 rfl (c_Model_isInRange hm h25) (zm4 hm 80 rfl) rfl rfl rfl (Nat.le_of_ble_eq_true rfl) ⟨(Nat.le_of_ble_eq_true rfl), (Nat.le_of_ble_eq_true rfl)⟩ ⟨(Nat.le_of_ble_eq_true rfl), (Nat.le_of_ble_eq_true rfl)⟩ d_Model_speak_107 ?_
        refine z_if_eq (tgt := 169) C d_Model_speak_110 rfl (fun h37 => ?_) (fun h37 => ?_)
        · have hf := iff_t hf h37
          refine z_iinc C d_Model_speak_169 5 rfl zki_1 (by decide) ?_
          refine z_goto (tgt := 91) C d_Model_speak_172 rfl ?_
          exact z_sub [1, 2, 3, 4, 5, 0] rfl (ih _ _ _ _ _ _ hf)
        · have hf := iff_f hf h37
          refine z_aload_n C d_Model_speak_113 0 rfl rfl ?_
          refine z_iload C d_Model_speak_114 5 rfl ?_
          obtain ⟨r28, h27, hf⟩ := bd_s hf
          refine z_cVi C kl_Model_206 rfl (c_Model_isQuiet hm h27) (zm4 hm 80 rfl) rfl rfl rfl (Nat.le_of_ble_eq_true rfl) ⟨(Nat.le_of_ble_eq_true rfl), (Nat.le_of_ble_eq_true rfl)⟩ ⟨(Nat.le_of_ble_eq_true rfl), (Nat.le_of_ble_eq_true rfl)⟩ d_Model_speak_116 ?_
          refine z_if_ne (tgt := 169) C d_Model_speak_119 rfl (fun h36 => ?_) (fun h36 => ?_)
          · have hf := iff_f hf h36
            refine z_iinc C d_Model_speak_169 5 rfl zki_1 (by decide) ?_
            refine z_goto (tgt := 91) C d_Model_speak_172 rfl ?_
            exact z_sub [1, 2, 3, 4, 5, 0] rfl (ih _ _ _ _ _ _ hf)
          · have hf := iff_t hf h36
            refine z_aload_n C d_Model_speak_122 0 rfl rfl ?_
            refine z_iload C d_Model_speak_123 5 rfl ?_
            refine z_iconst C d_Model_speak_125 zki_3 ?_
            obtain ⟨r30, h29, hf⟩ := bd_s hf
            refine z_cVi C kl_Model_191 rfl (c_Model_of hm h29) (zm4 hm 80 rfl) rfl rfl rfl (Nat.le_of_ble_eq_true rfl) ⟨(Nat.le_of_ble_eq_true rfl), (Nat.le_of_ble_eq_true rfl)⟩ ⟨(Nat.le_of_ble_eq_true rfl), (Nat.le_of_ble_eq_true rfl)⟩ d_Model_speak_126 ?_
            refine z_aload_n C d_Model_speak_129 0 rfl rfl ?_
            refine gf_Model_7 C (zm4 hm 80 rfl) rfl rfl d_Model_speak_130 ?_
            refine z_iconst C d_Model_speak_133 zki_1 ?_
            refine z_iald C (zm4 hm 81 rfl) rfl (inb_in (by decide)) zc_1 d_Model_speak_134 ?_
            refine z_icmp_lt (tgt := 169) C d_Model_speak_135 rfl (fun h35 => ?_) (fun h35 => ?_)
            · have hf := iff_t hf h35
              refine z_iinc C d_Model_speak_169 5 rfl zki_1 (by decide) ?_
              refine z_goto (tgt := 91) C d_Model_speak_172 rfl ?_
              exact z_sub [1, 2, 3, 4, 5, 0] rfl (ih _ _ _ _ _ _ hf)
            · have hf := iff_f hf h35
              refine z_iload_n C d_Model_speak_138 3 rfl rfl ?_
              refine z_iconst C d_Model_speak_139 zki_1 ?_
              refine z_iload C d_Model_speak_140 5 rfl ?_
              refine z_ishl C d_Model_speak_142 ?_
              refine z_iadd C d_Model_speak_143 ?_
              refine z_istore_n C d_Model_speak_144 rfl (by decide) ?_
              refine z_iload C d_Model_speak_145 4 rfl ?_
              refine z_aload_n C d_Model_speak_147 1 rfl rfl ?_
              refine z_iload C d_Model_speak_148 5 rfl ?_
              refine z_iload_n C d_Model_speak_150 2 rfl rfl ?_
              refine z_iload_n C d_Model_speak_151 3 rfl rfl ?_
              obtain ⟨r32, σ33, h31, hf⟩ := bd2_s hf
              refine z_cVi C kl_Model_328 rfl (c_Model_hear hm h31) (zm4 hm 80 rfl) rfl rfl rfl (Nat.le_of_ble_eq_true rfl) ⟨(Nat.le_of_ble_eq_true rfl), (Nat.le_of_ble_eq_true rfl)⟩ ⟨(Nat.le_of_ble_eq_true rfl), (Nat.le_of_ble_eq_true rfl)⟩ d_Model_speak_152 ?_
              refine z_if_eq (tgt := 165) C d_Model_speak_155 rfl (fun h34 => ?_) (fun h34 => ?_)
              · have hf := iff_t hf h34
                refine z_iconst C d_Model_speak_165 zki_0 ?_
                refine z_iadd C d_Model_speak_166 ?_
                refine z_istore C d_Model_speak_167 (by decide) ?_
                refine z_iinc C d_Model_speak_169 5 rfl zki_1 (by decide) ?_
                refine z_goto (tgt := 91) C d_Model_speak_172 rfl ?_
                exact z_sub [3, 4, 5, 2, 1, 0] rfl (ih _ _ _ _ _ _ hf)
              · have hf := iff_f hf h34
                refine z_iconst C d_Model_speak_158 zki_1 ?_
                refine z_iload C d_Model_speak_159 5 rfl ?_
                refine z_ishl C d_Model_speak_161 ?_
                refine z_goto (tgt := 166) C d_Model_speak_162 rfl ?_
                refine z_iadd C d_Model_speak_166 ?_
                refine z_istore C d_Model_speak_167 (by decide) ?_
                refine z_iinc C d_Model_speak_169 5 rfl zki_1 (by decide) ?_
                refine z_goto (tgt := 91) C d_Model_speak_172 rfl ?_
                exact z_sub [3, 4, 5, 2, 1, 0] rfl (ih _ _ _ _ _ _ hf)
def F_Model_speak (a0 : Int32) (σ : zSt) : Option (zSt) :=
  bd2 (F_Model_firstToSend a0 σ) fun r2 σ3 => (F_Model_of a0 (3 : Int32) σ3).bind fun r5 => (F_Model_put a0 (3 : Int32) (r5 - (σ3.1 4 81 0)) σ3).bind fun σ7 => (F_Model_of a0 (7 : Int32) σ7).bind fun r9 => (F_Model_put a0 (7 : Int32) (r9 + (1 : Int32)) σ7).bind fun σ11 => (F_Model_of a0 (8 : Int32) σ11).bind fun r13 => (F_Model_put a0 (8 : Int32) (r13 + (1 : Int32)) σ11).bind fun σ15 => L_Model_speak zK 0 a0 r2 (0 : Int32) (0 : Int32) (0 : Int32) (zst (zst σ15 4 81 10 ((σ15.1 4 81 10) + (1 : Int32))) 4 80 23 (((zst σ15 4 81 10 ((σ15.1 4 81 10) + (1 : Int32))).1 4 80 23) + ((zst σ15 4 81 10 ((σ15.1 4 81 10) + (1 : Int32))).1 4 81 0)))
set_option maxHeartbeats 4000000 in
set_option maxRecDepth 100000 in
theorem c_Model_speak {l : Launch} {G : zLA} (hm : zml G) {a0 : Int32} {σ : zSt} {σ' : zSt} (hf : F_Model_speak a0 σ = some σ') : zM l G y_Model_speak (zws y_Model_speak b_Model_speak 6 none) rm_Model_speak [.ref (zad G 4 80), .int a0] σ none σ' := by
  refine z_ofM (own := "VillageWavesModel") (lv := [(0, .ref (zad G 4 80)), (1, .int a0)]) (by decide +kernel) rfl rfl (Nat.le_of_ble_eq_true rfl) (fun p e s m args below meth c C => ?_)
  rw [F_Model_speak] at hf
  refine z_aload_n C d_Model_speak_0 0 rfl rfl ?_
  refine z_iload_n C d_Model_speak_1 1 rfl rfl ?_
  obtain ⟨r2, σ3, h1, hf⟩ := bd2_s hf
  refine z_cVi C kl_Model_295 rfl (c_Model_firstToSend hm h1) (zm4 hm 80 rfl) rfl rfl rfl (Nat.le_of_ble_eq_true rfl) ⟨(Nat.le_of_ble_eq_true rfl), (Nat.le_of_ble_eq_true rfl)⟩ ⟨(Nat.le_of_ble_eq_true rfl), (Nat.le_of_ble_eq_true rfl)⟩ d_Model_speak_2 ?_
  refine z_istore_n C d_Model_speak_5 rfl (by decide) ?_
  refine z_aload_n C d_Model_speak_6 1 rfl rfl ?_
  refine z_iload_n C d_Model_speak_7 2 rfl rfl ?_
  refine z_iconst C d_Model_speak_8 zki_3 ?_
  refine z_aload_n C d_Model_speak_9 1 rfl rfl ?_
  refine z_iload_n C d_Model_speak_10 2 rfl rfl ?_
  refine z_iconst C d_Model_speak_11 zki_3 ?_
  obtain ⟨r5, h4, hf⟩ := bd_s hf
  refine z_cVi C kl_Model_191 rfl (c_Model_of hm h4) (zm4 hm 80 rfl) rfl rfl rfl (Nat.le_of_ble_eq_true rfl) ⟨(Nat.le_of_ble_eq_true rfl), (Nat.le_of_ble_eq_true rfl)⟩ ⟨(Nat.le_of_ble_eq_true rfl), (Nat.le_of_ble_eq_true rfl)⟩ d_Model_speak_12 ?_
  refine z_aload_n C d_Model_speak_15 1 rfl rfl ?_
  refine gf_Model_7 C (zm4 hm 80 rfl) rfl rfl d_Model_speak_16 ?_
  refine z_iconst C d_Model_speak_19 zki_0 ?_
  refine z_iald C (zm4 hm 81 rfl) rfl (inb_in (by decide)) zc_0 d_Model_speak_20 ?_
  refine z_isub C d_Model_speak_21 ?_
  obtain ⟨σ7, h6, hf⟩ := bd_s hf
  refine z_cVv C kl_Model_140 rfl (c_Model_put hm h6) (zm4 hm 80 rfl) rfl rfl rfl (Nat.le_of_ble_eq_true rfl) ⟨(Nat.le_of_ble_eq_true rfl), (Nat.le_of_ble_eq_true rfl)⟩ ⟨(Nat.le_of_ble_eq_true rfl), (Nat.le_of_ble_eq_true rfl)⟩ d_Model_speak_22 ?_
  refine z_aload_n C d_Model_speak_25 1 rfl rfl ?_
  refine z_iload_n C d_Model_speak_26 2 rfl rfl ?_
  refine z_bipush C d_Model_speak_27 zkb_7 ?_
  refine z_aload_n C d_Model_speak_29 1 rfl rfl ?_
  refine z_iload_n C d_Model_speak_30 2 rfl rfl ?_
  refine z_bipush C d_Model_speak_31 zkb_7 ?_
  obtain ⟨r9, h8, hf⟩ := bd_s hf
  refine z_cVi C kl_Model_191 rfl (c_Model_of hm h8) (zm4 hm 80 rfl) rfl rfl rfl (Nat.le_of_ble_eq_true rfl) ⟨(Nat.le_of_ble_eq_true rfl), (Nat.le_of_ble_eq_true rfl)⟩ ⟨(Nat.le_of_ble_eq_true rfl), (Nat.le_of_ble_eq_true rfl)⟩ d_Model_speak_33 ?_
  refine z_iconst C d_Model_speak_36 zki_1 ?_
  refine z_iadd C d_Model_speak_37 ?_
  obtain ⟨σ11, h10, hf⟩ := bd_s hf
  refine z_cVv C kl_Model_140 rfl (c_Model_put hm h10) (zm4 hm 80 rfl) rfl rfl rfl (Nat.le_of_ble_eq_true rfl) ⟨(Nat.le_of_ble_eq_true rfl), (Nat.le_of_ble_eq_true rfl)⟩ ⟨(Nat.le_of_ble_eq_true rfl), (Nat.le_of_ble_eq_true rfl)⟩ d_Model_speak_38 ?_
  refine z_aload_n C d_Model_speak_41 1 rfl rfl ?_
  refine z_iload_n C d_Model_speak_42 2 rfl rfl ?_
  refine z_bipush C d_Model_speak_43 zkb_8 ?_
  refine z_aload_n C d_Model_speak_45 1 rfl rfl ?_
  refine z_iload_n C d_Model_speak_46 2 rfl rfl ?_
  refine z_bipush C d_Model_speak_47 zkb_8 ?_
  obtain ⟨r13, h12, hf⟩ := bd_s hf
  refine z_cVi C kl_Model_191 rfl (c_Model_of hm h12) (zm4 hm 80 rfl) rfl rfl rfl (Nat.le_of_ble_eq_true rfl) ⟨(Nat.le_of_ble_eq_true rfl), (Nat.le_of_ble_eq_true rfl)⟩ ⟨(Nat.le_of_ble_eq_true rfl), (Nat.le_of_ble_eq_true rfl)⟩ d_Model_speak_49 ?_
  refine z_iconst C d_Model_speak_52 zki_1 ?_
  refine z_iadd C d_Model_speak_53 ?_
  obtain ⟨σ15, h14, hf⟩ := bd_s hf
  refine z_cVv C kl_Model_140 rfl (c_Model_put hm h14) (zm4 hm 80 rfl) rfl rfl rfl (Nat.le_of_ble_eq_true rfl) ⟨(Nat.le_of_ble_eq_true rfl), (Nat.le_of_ble_eq_true rfl)⟩ ⟨(Nat.le_of_ble_eq_true rfl), (Nat.le_of_ble_eq_true rfl)⟩ d_Model_speak_54 ?_
  refine z_aload_n C d_Model_speak_57 1 rfl rfl ?_
  refine gf_Model_7 C (zm4 hm 80 rfl) rfl rfl d_Model_speak_58 ?_
  refine z_bipush C d_Model_speak_61 zkb_10 ?_
  refine z_dup2 C d_Model_speak_63 rfl rfl ?_
  refine z_iald C (zm4 hm 81 rfl) rfl (inb_in (by decide)) zc_10 d_Model_speak_64 ?_
  refine z_iconst C d_Model_speak_65 zki_1 ?_
  refine z_iadd C d_Model_speak_66 ?_
  refine z_iast C (zm4 hm 81 rfl) (fun _ _ _ => rfl) (inb_in (by decide)) zc_10 d_Model_speak_67 ?_
  refine z_aload_n C d_Model_speak_68 1 rfl rfl ?_
  refine z_dup C d_Model_speak_69 rfl ?_
  refine gf_Model_319 C (zm4 hm 80 rfl) rfl rfl d_Model_speak_70 ?_
  refine z_aload_n C d_Model_speak_73 1 rfl rfl ?_
  refine gf_Model_7 C (zm4 hm 80 rfl) rfl rfl d_Model_speak_74 ?_
  refine z_iconst C d_Model_speak_77 zki_0 ?_
  refine z_iald C (zm4 hm 81 rfl) rfl (inb_in (by decide)) zc_0 d_Model_speak_78 ?_
  refine z_iadd C d_Model_speak_79 ?_
  refine pf_Model_319 C (zm4 hm 80 rfl) rfl (Nat.le_of_ble_eq_true rfl) rfl d_Model_speak_80 ?_
  refine z_iconst C d_Model_speak_83 zki_0 ?_
  refine z_istore_n C d_Model_speak_84 rfl (by decide) ?_
  refine z_iconst C d_Model_speak_85 zki_0 ?_
  refine z_istore C d_Model_speak_86 (by decide) ?_
  refine z_iconst C d_Model_speak_88 zki_0 ?_
  refine z_istore C d_Model_speak_89 (by decide) ?_
  exact z_sub [4, 5, 3, 2, 1, 0] rfl ((w_Model_speak C hm zK) _ _ _ _ _ _ hf)
abbrev rm_Model_removePaid : Room := { frames := 4, cells := 0, slots := 0, locals := 92 }
theorem d_Model_removePaid_0 : decode b_Model_removePaid 0 = .ok (.iconst 0, 1) := by decide +kernel
theorem d_Model_removePaid_1 : decode b_Model_removePaid 1 = .ok (.istore_n 1, 1) := by decide +kernel
theorem d_Model_removePaid_2 : decode b_Model_removePaid 2 = .ok (.iload_n 1, 1) := by decide +kernel
theorem d_Model_removePaid_3 : decode b_Model_removePaid 3 = .ok (.aload_n 0, 1) := by decide +kernel
theorem d_Model_removePaid_4 : decode b_Model_removePaid 4 = .ok (.getfield 7, 3) := by decide +kernel
theorem d_Model_removePaid_7 : decode b_Model_removePaid 7 = .ok (.bipush 6, 2) := by decide +kernel
theorem d_Model_removePaid_9 : decode b_Model_removePaid 9 = .ok (.iaload, 1) := by decide +kernel
theorem d_Model_removePaid_10 : decode b_Model_removePaid 10 = .ok (.if_icmp .ge 58, 3) := by decide +kernel
theorem d_Model_removePaid_13 : decode b_Model_removePaid 13 = .ok (.iconst 0, 1) := by decide +kernel
theorem d_Model_removePaid_14 : decode b_Model_removePaid 14 = .ok (.istore_n 2, 1) := by decide +kernel
theorem d_Model_removePaid_15 : decode b_Model_removePaid 15 = .ok (.iload_n 2, 1) := by decide +kernel
theorem d_Model_removePaid_16 : decode b_Model_removePaid 16 = .ok (.aload_n 0, 1) := by decide +kernel
theorem d_Model_removePaid_17 : decode b_Model_removePaid 17 = .ok (.getfield 7, 3) := by decide +kernel
theorem d_Model_removePaid_20 : decode b_Model_removePaid 20 = .ok (.bipush 7, 2) := by decide +kernel
theorem d_Model_removePaid_22 : decode b_Model_removePaid 22 = .ok (.iaload, 1) := by decide +kernel
theorem d_Model_removePaid_23 : decode b_Model_removePaid 23 = .ok (.if_icmp .ge 39, 3) := by decide +kernel
theorem d_Model_removePaid_26 : decode b_Model_removePaid 26 = .ok (.aload_n 0, 1) := by decide +kernel
theorem d_Model_removePaid_27 : decode b_Model_removePaid 27 = .ok (.iload_n 1, 1) := by decide +kernel
theorem d_Model_removePaid_28 : decode b_Model_removePaid 28 = .ok (.iload_n 2, 1) := by decide +kernel
theorem d_Model_removePaid_29 : decode b_Model_removePaid 29 = .ok (.bipush 7, 2) := by decide +kernel
theorem d_Model_removePaid_31 : decode b_Model_removePaid 31 = .ok (.invokevirtual 209, 3) := by decide +kernel
theorem d_Model_removePaid_34 : decode b_Model_removePaid 34 = .ok (.iconst 1, 1) := by decide +kernel
theorem d_Model_removePaid_35 : decode b_Model_removePaid 35 = .ok (.if_icmp .ne 21, 3) := by decide +kernel
theorem d_Model_removePaid_38 : decode b_Model_removePaid 38 = .ok (.aload_n 0, 1) := by decide +kernel
theorem d_Model_removePaid_39 : decode b_Model_removePaid 39 = .ok (.iload_n 1, 1) := by decide +kernel
theorem d_Model_removePaid_40 : decode b_Model_removePaid 40 = .ok (.iload_n 2, 1) := by decide +kernel
theorem d_Model_removePaid_41 : decode b_Model_removePaid 41 = .ok (.invokevirtual 264, 3) := by decide +kernel
theorem d_Model_removePaid_44 : decode b_Model_removePaid 44 = .ok (.ifCond .ne 12, 3) := by decide +kernel
theorem d_Model_removePaid_47 : decode b_Model_removePaid 47 = .ok (.aload_n 0, 1) := by decide +kernel
theorem d_Model_removePaid_48 : decode b_Model_removePaid 48 = .ok (.iload_n 1, 1) := by decide +kernel
theorem d_Model_removePaid_49 : decode b_Model_removePaid 49 = .ok (.iload_n 2, 1) := by decide +kernel
theorem d_Model_removePaid_50 : decode b_Model_removePaid 50 = .ok (.bipush 7, 2) := by decide +kernel
theorem d_Model_removePaid_52 : decode b_Model_removePaid 52 = .ok (.iconst 0, 1) := by decide +kernel
theorem d_Model_removePaid_53 : decode b_Model_removePaid 53 = .ok (.invokevirtual 184, 3) := by decide +kernel
theorem d_Model_removePaid_56 : decode b_Model_removePaid 56 = .ok (.iinc 2 1, 3) := by decide +kernel
theorem d_Model_removePaid_59 : decode b_Model_removePaid 59 = .ok (.goto (-44), 3) := by decide +kernel
theorem d_Model_removePaid_62 : decode b_Model_removePaid 62 = .ok (.iinc 1 1, 3) := by decide +kernel
theorem d_Model_removePaid_65 : decode b_Model_removePaid 65 = .ok (.goto (-63), 3) := by decide +kernel
theorem d_Model_removePaid_68 : decode b_Model_removePaid 68 = .ok (.return_, 1) := by decide +kernel
def L_Model_removePaid : Nat → Nat → Int32 → Int32 → zSt → Option (zSt)
  | 0, _, _, _, _ => none
  | n + 1, 0, x1, x2, σ => if (σ.1 4 81 6) ≤ x1 then some σ else L_Model_removePaid n 1 x1 (0 : Int32) σ
  | n + 1, 1, x1, x2, σ => if (σ.1 4 81 7) ≤ x2 then L_Model_removePaid n 0 (x1 + (1 : Int32)) 0 σ else ((F_Model_pair x1 x2 (7 : Int32) σ).bind fun r3 => if r3 = (1 : Int32) then ((F_Model_owedBy x1 x2 σ).bind fun r5 => if r5 = 0 then ((F_Model_setPair x1 x2 (7 : Int32) (0 : Int32) σ).bind fun σ7 => L_Model_removePaid n 1 x1 (x2 + (1 : Int32)) σ7) else L_Model_removePaid n 1 x1 (x2 + (1 : Int32)) σ) else L_Model_removePaid n 1 x1 (x2 + (1 : Int32)) σ)
  | _ + 1, _, _, _, _ => none
theorem e_Model_removePaid_0 (n : Nat) (x1 : Int32) (x2 : Int32) (σ : zSt) : L_Model_removePaid (n + 1) 0 x1 x2 σ = (if (σ.1 4 81 6) ≤ x1 then some σ else L_Model_removePaid n 1 x1 (0 : Int32) σ) := rfl
theorem e_Model_removePaid_1 (n : Nat) (x1 : Int32) (x2 : Int32) (σ : zSt) : L_Model_removePaid (n + 1) 1 x1 x2 σ = (if (σ.1 4 81 7) ≤ x2 then L_Model_removePaid n 0 (x1 + (1 : Int32)) 0 σ else ((F_Model_pair x1 x2 (7 : Int32) σ).bind fun r3 => if r3 = (1 : Int32) then ((F_Model_owedBy x1 x2 σ).bind fun r5 => if r5 = 0 then ((F_Model_setPair x1 x2 (7 : Int32) (0 : Int32) σ).bind fun σ7 => L_Model_removePaid n 1 x1 (x2 + (1 : Int32)) σ7) else L_Model_removePaid n 1 x1 (x2 + (1 : Int32)) σ) else L_Model_removePaid n 1 x1 (x2 + (1 : Int32)) σ)) := rfl
set_option maxHeartbeats 4000000 in
set_option maxRecDepth 100000 in
theorem w_Model_removePaid {l : Launch} {G : zLA} {p : Program} {e : Env} {s : State} {m : MethodId} {args : Array Value} {below : List Frame} {meth : Method} {c : Code} (C : zCx G p s m args meth c "VillageWavesModel" b_Model_removePaid 3 none) (hm : zml G) {σ' : zSt} : ∀ n : Nat, (∀ (x1 : Int32) (x2 : Int32) (σ : zSt), L_Model_removePaid n 0 x1 x2 σ = some σ' → zWV G p l e rm_Model_removePaid s m args below meth c 3 0 0 (zQ G below args s rm_Model_removePaid none σ') 2 [(0, .ref (zad G 4 80)), (1, .int x1)] [] σ) ∧ (∀ (x1 : Int32) (x2 : Int32) (σ : zSt), L_Model_removePaid n 1 x1 x2 σ = some σ' → zWV G p l e rm_Model_removePaid s m args below meth c 3 0 0 (zQ G below args s rm_Model_removePaid none σ') 15 [(0, .ref (zad G 4 80)), (1, .int x1), (2, .int x2)] [] σ) := by
  intro n
  induction n with
  | zero => exact ⟨fun _ _ _ hf => (by cases hf), fun _ _ _ hf => (by cases hf)⟩
  | succ n ih =>
    refine ⟨?_, ?_⟩
    · intro x1 x2 σ hf
      rw [e_Model_removePaid_0] at hf
      refine z_iload_n C d_Model_removePaid_2 1 rfl rfl ?_
      refine z_aload_n C d_Model_removePaid_3 0 rfl rfl ?_
      refine gf_Model_7 C (zm4 hm 80 rfl) rfl rfl d_Model_removePaid_4 ?_
      refine z_bipush C d_Model_removePaid_7 zkb_6 ?_
      refine z_iald C (zm4 hm 81 rfl) rfl (inb_in (by decide)) zc_6 d_Model_removePaid_9 ?_
      refine z_icmp_ge (tgt := 68) C d_Model_removePaid_10 rfl (fun h1 => ?_) (fun h1 => ?_)
      · have hf := iff_t hf h1
        cases hf
        exact z_vret C rfl (Nat.le_of_ble_eq_true rfl) (Nat.le_of_ble_eq_true rfl) d_Model_removePaid_68
      · have hf := iff_f hf h1
        refine z_iconst C d_Model_removePaid_13 zki_0 ?_
        refine z_istore_n C d_Model_removePaid_14 rfl (by decide) ?_
        exact z_sub [1, 2, 0] rfl (ih.2 _ _ _ hf)
    · intro x1 x2 σ hf
      rw [e_Model_removePaid_1] at hf
      refine z_iload_n C d_Model_removePaid_15 2 rfl rfl ?_
      refine z_aload_n C d_Model_removePaid_16 0 rfl rfl ?_
      refine gf_Model_7 C (zm4 hm 80 rfl) rfl rfl d_Model_removePaid_17 ?_
      refine z_bipush C d_Model_removePaid_20 zkb_7 ?_
      refine z_iald C (zm4 hm 81 rfl) rfl (inb_in (by decide)) zc_7 d_Model_removePaid_22 ?_
      refine z_icmp_ge (tgt := 62) C d_Model_removePaid_23 rfl (fun h10 => ?_) (fun h10 => ?_)
      · have hf := iff_t hf h10
        refine z_iinc C d_Model_removePaid_62 1 rfl zki_1 (by decide) ?_
        refine z_goto (tgt := 2) C d_Model_removePaid_65 rfl ?_
        exact z_sub [1, 0] rfl (ih.1 _ _ _ hf)
      · have hf := iff_f hf h10
        refine z_aload_n C d_Model_removePaid_26 0 rfl rfl ?_
        refine z_iload_n C d_Model_removePaid_27 1 rfl rfl ?_
        refine z_iload_n C d_Model_removePaid_28 2 rfl rfl ?_
        refine z_bipush C d_Model_removePaid_29 zkb_7 ?_
        obtain ⟨r3, h2, hf⟩ := bd_s hf
        refine z_cVi C kl_Model_209 rfl (c_Model_pair hm h2) (zm4 hm 80 rfl) rfl rfl rfl (Nat.le_of_ble_eq_true rfl) ⟨(Nat.le_of_ble_eq_true rfl), (Nat.le_of_ble_eq_true rfl)⟩ ⟨(Nat.le_of_ble_eq_true rfl), (Nat.le_of_ble_eq_true rfl)⟩ d_Model_removePaid_31 ?_
        refine z_iconst C d_Model_removePaid_34 zki_1 ?_
        refine z_icmp_ne (tgt := 56) C d_Model_removePaid_35 rfl (fun h9 => ?_) (fun h9 => ?_)
        · have hf := iff_f hf h9
          refine z_iinc C d_Model_removePaid_56 2 rfl zki_1 (by decide) ?_
          refine z_goto (tgt := 15) C d_Model_removePaid_59 rfl ?_
          exact z_sub [1, 2, 0] rfl (ih.2 _ _ _ hf)
        · have hf := iff_t hf h9
          refine z_aload_n C d_Model_removePaid_38 0 rfl rfl ?_
          refine z_iload_n C d_Model_removePaid_39 1 rfl rfl ?_
          refine z_iload_n C d_Model_removePaid_40 2 rfl rfl ?_
          obtain ⟨r5, h4, hf⟩ := bd_s hf
          refine z_cVi C kl_Model_264 rfl (c_Model_owedBy hm h4) (zm4 hm 80 rfl) rfl rfl rfl (Nat.le_of_ble_eq_true rfl) ⟨(Nat.le_of_ble_eq_true rfl), (Nat.le_of_ble_eq_true rfl)⟩ ⟨(Nat.le_of_ble_eq_true rfl), (Nat.le_of_ble_eq_true rfl)⟩ d_Model_removePaid_41 ?_
          refine z_if_ne (tgt := 56) C d_Model_removePaid_44 rfl (fun h8 => ?_) (fun h8 => ?_)
          · have hf := iff_f hf h8
            refine z_iinc C d_Model_removePaid_56 2 rfl zki_1 (by decide) ?_
            refine z_goto (tgt := 15) C d_Model_removePaid_59 rfl ?_
            exact z_sub [1, 2, 0] rfl (ih.2 _ _ _ hf)
          · have hf := iff_t hf h8
            refine z_aload_n C d_Model_removePaid_47 0 rfl rfl ?_
            refine z_iload_n C d_Model_removePaid_48 1 rfl rfl ?_
            refine z_iload_n C d_Model_removePaid_49 2 rfl rfl ?_
            refine z_bipush C d_Model_removePaid_50 zkb_7 ?_
            refine z_iconst C d_Model_removePaid_52 zki_0 ?_
            obtain ⟨σ7, h6, hf⟩ := bd_s hf
            refine z_cVv C kl_Model_184 rfl (c_Model_setPair hm h6) (zm4 hm 80 rfl) rfl rfl rfl (Nat.le_of_ble_eq_true rfl) ⟨(Nat.le_of_ble_eq_true rfl), (Nat.le_of_ble_eq_true rfl)⟩ ⟨(Nat.le_of_ble_eq_true rfl), (Nat.le_of_ble_eq_true rfl)⟩ d_Model_removePaid_53 ?_
            refine z_iinc C d_Model_removePaid_56 2 rfl zki_1 (by decide) ?_
            refine z_goto (tgt := 15) C d_Model_removePaid_59 rfl ?_
            exact z_sub [1, 2, 0] rfl (ih.2 _ _ _ hf)
def F_Model_removePaid (σ : zSt) : Option (zSt) :=
  L_Model_removePaid zK 0 (0 : Int32) 0 σ
set_option maxHeartbeats 4000000 in
set_option maxRecDepth 100000 in
theorem c_Model_removePaid {l : Launch} {G : zLA} (hm : zml G) {σ : zSt} {σ' : zSt} (hf : F_Model_removePaid σ = some σ') : zM l G y_Model_removePaid (zws y_Model_removePaid b_Model_removePaid 3 none) rm_Model_removePaid [.ref (zad G 4 80)] σ none σ' := by
  refine z_ofM (own := "VillageWavesModel") (lv := [(0, .ref (zad G 4 80))]) (by decide +kernel) rfl rfl (Nat.le_of_ble_eq_true rfl) (fun p e s m args below meth c C => ?_)
  rw [F_Model_removePaid] at hf
  refine z_iconst C d_Model_removePaid_0 zki_0 ?_
  refine z_istore_n C d_Model_removePaid_1 rfl (by decide) ?_
  exact z_sub [1, 0] rfl ((w_Model_removePaid C hm zK).1 _ _ _ hf)
abbrev rm_Model_passMinute : Room := { frames := 10, cells := 0, slots := 0, locals := 223 }
theorem d_Model_passMinute_0 : decode b_Model_passMinute 0 = .ok (.aload_n 0, 1) := by decide +kernel
theorem d_Model_passMinute_1 : decode b_Model_passMinute 1 = .ok (.invokevirtual 334, 3) := by decide +kernel
theorem d_Model_passMinute_4 : decode b_Model_passMinute 4 = .ok (.aload_n 0, 1) := by decide +kernel
theorem d_Model_passMinute_5 : decode b_Model_passMinute 5 = .ok (.invokevirtual 337, 3) := by decide +kernel
theorem d_Model_passMinute_8 : decode b_Model_passMinute 8 = .ok (.istore_n 1, 1) := by decide +kernel
theorem d_Model_passMinute_9 : decode b_Model_passMinute 9 = .ok (.iload_n 1, 1) := by decide +kernel
theorem d_Model_passMinute_10 : decode b_Model_passMinute 10 = .ok (.iconst (-1), 1) := by decide +kernel
theorem d_Model_passMinute_11 : decode b_Model_passMinute 11 = .ok (.if_icmp .eq 8, 3) := by decide +kernel
theorem d_Model_passMinute_14 : decode b_Model_passMinute 14 = .ok (.aload_n 0, 1) := by decide +kernel
theorem d_Model_passMinute_15 : decode b_Model_passMinute 15 = .ok (.iload_n 1, 1) := by decide +kernel
theorem d_Model_passMinute_16 : decode b_Model_passMinute 16 = .ok (.invokevirtual 340, 3) := by decide +kernel
theorem d_Model_passMinute_19 : decode b_Model_passMinute 19 = .ok (.aload_n 0, 1) := by decide +kernel
theorem d_Model_passMinute_20 : decode b_Model_passMinute 20 = .ok (.invokevirtual 343, 3) := by decide +kernel
theorem d_Model_passMinute_23 : decode b_Model_passMinute 23 = .ok (.aload_n 0, 1) := by decide +kernel
theorem d_Model_passMinute_24 : decode b_Model_passMinute 24 = .ok (.getfield 7, 3) := by decide +kernel
theorem d_Model_passMinute_27 : decode b_Model_passMinute 27 = .ok (.bipush 8, 2) := by decide +kernel
theorem d_Model_passMinute_29 : decode b_Model_passMinute 29 = .ok (.dup2, 1) := by decide +kernel
theorem d_Model_passMinute_30 : decode b_Model_passMinute 30 = .ok (.iaload, 1) := by decide +kernel
theorem d_Model_passMinute_31 : decode b_Model_passMinute 31 = .ok (.iconst 1, 1) := by decide +kernel
theorem d_Model_passMinute_32 : decode b_Model_passMinute 32 = .ok (.iadd, 1) := by decide +kernel
theorem d_Model_passMinute_33 : decode b_Model_passMinute 33 = .ok (.iastore, 1) := by decide +kernel
theorem d_Model_passMinute_34 : decode b_Model_passMinute 34 = .ok (.return_, 1) := by decide +kernel
def F_Model_passMinute (σ : zSt) : Option (zSt) :=
  (F_Model_beginMinute σ).bind fun σ2 => bd2 (F_Model_drawSpeaker σ2) fun r4 σ5 => if r4 = (-1 : Int32) then ((F_Model_removePaid σ5).bind fun σ7 => some (zst σ7 4 81 8 ((σ7.1 4 81 8) + (1 : Int32)))) else ((F_Model_speak r4 σ5).bind fun σ9 => (F_Model_removePaid σ9).bind fun σ11 => some (zst σ11 4 81 8 ((σ11.1 4 81 8) + (1 : Int32))))
set_option maxHeartbeats 4000000 in
set_option maxRecDepth 100000 in
theorem c_Model_passMinute {l : Launch} {G : zLA} (hm : zml G) {σ : zSt} {σ' : zSt} (hf : F_Model_passMinute σ = some σ') : zM l G y_Model_passMinute (zws y_Model_passMinute b_Model_passMinute 2 none) rm_Model_passMinute [.ref (zad G 4 80)] σ none σ' := by
  refine z_ofM (own := "VillageWavesModel") (lv := [(0, .ref (zad G 4 80))]) (by decide +kernel) rfl rfl (Nat.le_of_ble_eq_true rfl) (fun p e s m args below meth c C => ?_)
  rw [F_Model_passMinute] at hf
  refine z_aload_n C d_Model_passMinute_0 0 rfl rfl ?_
  obtain ⟨σ2, h1, hf⟩ := bd_s hf
  refine z_cVv C kl_Model_334 rfl (c_Model_beginMinute hm h1) (zm4 hm 80 rfl) rfl rfl rfl (Nat.le_of_ble_eq_true rfl) ⟨(Nat.le_of_ble_eq_true rfl), (Nat.le_of_ble_eq_true rfl)⟩ ⟨(Nat.le_of_ble_eq_true rfl), (Nat.le_of_ble_eq_true rfl)⟩ d_Model_passMinute_1 ?_
  refine z_aload_n C d_Model_passMinute_4 0 rfl rfl ?_
  obtain ⟨r4, σ5, h3, hf⟩ := bd2_s hf
  refine z_cVi C kl_Model_337 rfl (c_Model_drawSpeaker hm h3) (zm4 hm 80 rfl) rfl rfl rfl (Nat.le_of_ble_eq_true rfl) ⟨(Nat.le_of_ble_eq_true rfl), (Nat.le_of_ble_eq_true rfl)⟩ ⟨(Nat.le_of_ble_eq_true rfl), (Nat.le_of_ble_eq_true rfl)⟩ d_Model_passMinute_5 ?_
  refine z_istore_n C d_Model_passMinute_8 rfl (by decide) ?_
  refine z_iload_n C d_Model_passMinute_9 0 rfl rfl ?_
  refine z_iconst C d_Model_passMinute_10 zki_m1 ?_
  refine z_icmp_eq (tgt := 19) C d_Model_passMinute_11 rfl (fun h12 => ?_) (fun h12 => ?_)
  · have hf := iff_t hf h12
    refine z_aload_n C d_Model_passMinute_19 1 rfl rfl ?_
    obtain ⟨σ7, h6, hf⟩ := bd_s hf
    refine z_cVv C kl_Model_343 rfl (c_Model_removePaid hm h6) (zm4 hm 80 rfl) rfl rfl rfl (Nat.le_of_ble_eq_true rfl) ⟨(Nat.le_of_ble_eq_true rfl), (Nat.le_of_ble_eq_true rfl)⟩ ⟨(Nat.le_of_ble_eq_true rfl), (Nat.le_of_ble_eq_true rfl)⟩ d_Model_passMinute_20 ?_
    refine z_aload_n C d_Model_passMinute_23 1 rfl rfl ?_
    refine gf_Model_7 C (zm4 hm 80 rfl) rfl rfl d_Model_passMinute_24 ?_
    refine z_bipush C d_Model_passMinute_27 zkb_8 ?_
    refine z_dup2 C d_Model_passMinute_29 rfl rfl ?_
    refine z_iald C (zm4 hm 81 rfl) rfl (inb_in (by decide)) zc_8 d_Model_passMinute_30 ?_
    refine z_iconst C d_Model_passMinute_31 zki_1 ?_
    refine z_iadd C d_Model_passMinute_32 ?_
    refine z_iast C (zm4 hm 81 rfl) (fun _ _ _ => rfl) (inb_in (by decide)) zc_8 d_Model_passMinute_33 ?_
    cases hf
    exact z_vret C rfl (Nat.le_of_ble_eq_true rfl) (Nat.le_of_ble_eq_true rfl) d_Model_passMinute_34
  · have hf := iff_f hf h12
    refine z_aload_n C d_Model_passMinute_14 1 rfl rfl ?_
    refine z_iload_n C d_Model_passMinute_15 0 rfl rfl ?_
    obtain ⟨σ9, h8, hf⟩ := bd_s hf
    refine z_cVv C kl_Model_340 rfl (c_Model_speak hm h8) (zm4 hm 80 rfl) rfl rfl rfl (Nat.le_of_ble_eq_true rfl) ⟨(Nat.le_of_ble_eq_true rfl), (Nat.le_of_ble_eq_true rfl)⟩ ⟨(Nat.le_of_ble_eq_true rfl), (Nat.le_of_ble_eq_true rfl)⟩ d_Model_passMinute_16 ?_
    refine z_aload_n C d_Model_passMinute_19 1 rfl rfl ?_
    obtain ⟨σ11, h10, hf⟩ := bd_s hf
    refine z_cVv C kl_Model_343 rfl (c_Model_removePaid hm h10) (zm4 hm 80 rfl) rfl rfl rfl (Nat.le_of_ble_eq_true rfl) ⟨(Nat.le_of_ble_eq_true rfl), (Nat.le_of_ble_eq_true rfl)⟩ ⟨(Nat.le_of_ble_eq_true rfl), (Nat.le_of_ble_eq_true rfl)⟩ d_Model_passMinute_20 ?_
    refine z_aload_n C d_Model_passMinute_23 1 rfl rfl ?_
    refine gf_Model_7 C (zm4 hm 80 rfl) rfl rfl d_Model_passMinute_24 ?_
    refine z_bipush C d_Model_passMinute_27 zkb_8 ?_
    refine z_dup2 C d_Model_passMinute_29 rfl rfl ?_
    refine z_iald C (zm4 hm 81 rfl) rfl (inb_in (by decide)) zc_8 d_Model_passMinute_30 ?_
    refine z_iconst C d_Model_passMinute_31 zki_1 ?_
    refine z_iadd C d_Model_passMinute_32 ?_
    refine z_iast C (zm4 hm 81 rfl) (fun _ _ _ => rfl) (inb_in (by decide)) zc_8 d_Model_passMinute_33 ?_
    cases hf
    exact z_vret C rfl (Nat.le_of_ble_eq_true rfl) (Nat.le_of_ble_eq_true rfl) d_Model_passMinute_34
abbrev rm_Model_passMinutes : Room := { frames := 11, cells := 0, slots := 0, locals := 244 }
theorem d_Model_passMinutes_0 : decode b_Model_passMinutes 0 = .ok (.iconst 0, 1) := by decide +kernel
theorem d_Model_passMinutes_1 : decode b_Model_passMinutes 1 = .ok (.istore_n 2, 1) := by decide +kernel
theorem d_Model_passMinutes_2 : decode b_Model_passMinutes 2 = .ok (.iload_n 2, 1) := by decide +kernel
theorem d_Model_passMinutes_3 : decode b_Model_passMinutes 3 = .ok (.iload_n 1, 1) := by decide +kernel
theorem d_Model_passMinutes_4 : decode b_Model_passMinutes 4 = .ok (.if_icmp .ge 13, 3) := by decide +kernel
theorem d_Model_passMinutes_7 : decode b_Model_passMinutes 7 = .ok (.aload_n 0, 1) := by decide +kernel
theorem d_Model_passMinutes_8 : decode b_Model_passMinutes 8 = .ok (.invokevirtual 346, 3) := by decide +kernel
theorem d_Model_passMinutes_11 : decode b_Model_passMinutes 11 = .ok (.iinc 2 1, 3) := by decide +kernel
theorem d_Model_passMinutes_14 : decode b_Model_passMinutes 14 = .ok (.goto (-12), 3) := by decide +kernel
theorem d_Model_passMinutes_17 : decode b_Model_passMinutes 17 = .ok (.return_, 1) := by decide +kernel
def L_Model_passMinutes : Nat → Nat → Int32 → Int32 → zSt → Option (zSt)
  | 0, _, _, _, _ => none
  | n + 1, 0, x1, x2, σ => if x1 ≤ x2 then some σ else ((F_Model_passMinute σ).bind fun σ2 => L_Model_passMinutes n 0 x1 (x2 + (1 : Int32)) σ2)
  | _ + 1, _, _, _, _ => none
theorem e_Model_passMinutes_0 (n : Nat) (x1 : Int32) (x2 : Int32) (σ : zSt) : L_Model_passMinutes (n + 1) 0 x1 x2 σ = (if x1 ≤ x2 then some σ else ((F_Model_passMinute σ).bind fun σ2 => L_Model_passMinutes n 0 x1 (x2 + (1 : Int32)) σ2)) := rfl
set_option maxHeartbeats 4000000 in
set_option maxRecDepth 100000 in
theorem w_Model_passMinutes {l : Launch} {G : zLA} {p : Program} {e : Env} {s : State} {m : MethodId} {args : Array Value} {below : List Frame} {meth : Method} {c : Code} (C : zCx G p s m args meth c "VillageWavesModel" b_Model_passMinutes 3 none) (hm : zml G) {σ' : zSt} : ∀ n : Nat, (∀ (x1 : Int32) (x2 : Int32) (σ : zSt), L_Model_passMinutes n 0 x1 x2 σ = some σ' → zWV G p l e rm_Model_passMinutes s m args below meth c 3 0 0 (zQ G below args s rm_Model_passMinutes none σ') 2 [(0, .ref (zad G 4 80)), (1, .int x1), (2, .int x2)] [] σ) := by
  intro n
  induction n with
  | zero => exact fun _ _ _ hf => (by cases hf)
  | succ n ih =>
    refine ?_
    · intro x1 x2 σ hf
      rw [e_Model_passMinutes_0] at hf
      refine z_iload_n C d_Model_passMinutes_2 2 rfl rfl ?_
      refine z_iload_n C d_Model_passMinutes_3 1 rfl rfl ?_
      refine z_icmp_ge (tgt := 17) C d_Model_passMinutes_4 rfl (fun h3 => ?_) (fun h3 => ?_)
      · have hf := iff_t hf h3
        cases hf
        exact z_vret C rfl (Nat.le_of_ble_eq_true rfl) (Nat.le_of_ble_eq_true rfl) d_Model_passMinutes_17
      · have hf := iff_f hf h3
        refine z_aload_n C d_Model_passMinutes_7 0 rfl rfl ?_
        obtain ⟨σ2, h1, hf⟩ := bd_s hf
        refine z_cVv C kl_Model_346 rfl (c_Model_passMinute hm h1) (zm4 hm 80 rfl) rfl rfl rfl (Nat.le_of_ble_eq_true rfl) ⟨(Nat.le_of_ble_eq_true rfl), (Nat.le_of_ble_eq_true rfl)⟩ ⟨(Nat.le_of_ble_eq_true rfl), (Nat.le_of_ble_eq_true rfl)⟩ d_Model_passMinutes_8 ?_
        refine z_iinc C d_Model_passMinutes_11 2 rfl zki_1 (by decide) ?_
        refine z_goto (tgt := 2) C d_Model_passMinutes_14 rfl ?_
        exact z_sub [1, 2, 0] rfl (ih _ _ _ hf)
def F_Model_passMinutes (a0 : Int32) (σ : zSt) : Option (zSt) :=
  L_Model_passMinutes zK 0 a0 (0 : Int32) σ
set_option maxHeartbeats 4000000 in
set_option maxRecDepth 100000 in
theorem c_Model_passMinutes {l : Launch} {G : zLA} (hm : zml G) {a0 : Int32} {σ : zSt} {σ' : zSt} (hf : F_Model_passMinutes a0 σ = some σ') : zM l G y_Model_passMinutes (zws y_Model_passMinutes b_Model_passMinutes 3 none) rm_Model_passMinutes [.ref (zad G 4 80), .int a0] σ none σ' := by
  refine z_ofM (own := "VillageWavesModel") (lv := [(0, .ref (zad G 4 80)), (1, .int a0)]) (by decide +kernel) rfl rfl (Nat.le_of_ble_eq_true rfl) (fun p e s m args below meth c C => ?_)
  rw [F_Model_passMinutes] at hf
  refine z_iconst C d_Model_passMinutes_0 zki_0 ?_
  refine z_istore_n C d_Model_passMinutes_1 rfl (by decide) ?_
  exact z_sub [1, 2, 0] rfl ((w_Model_passMinutes C hm zK) _ _ _ hf)
abbrev rm_Model_run : Room := { frames := 12, cells := 0, slots := 0, locals := 266 }
theorem d_Model_run_0 : decode b_Model_run 0 = .ok (.aload_n 0, 1) := by decide +kernel
theorem d_Model_run_1 : decode b_Model_run 1 = .ok (.iconst 0, 1) := by decide +kernel
theorem d_Model_run_2 : decode b_Model_run 2 = .ok (.putfield 48, 3) := by decide +kernel
theorem d_Model_run_5 : decode b_Model_run 5 = .ok (.iload_n 1, 1) := by decide +kernel
theorem d_Model_run_6 : decode b_Model_run 6 = .ok (.iconst 1, 1) := by decide +kernel
theorem d_Model_run_7 : decode b_Model_run 7 = .ok (.sipush 500, 3) := by decide +kernel
theorem d_Model_run_10 : decode b_Model_run 10 = .ok (.invokestatic 51, 3) := by decide +kernel
theorem d_Model_run_13 : decode b_Model_run 13 = .ok (.ifCond .ne 9, 3) := by decide +kernel
theorem d_Model_run_16 : decode b_Model_run 16 = .ok (.aload_n 0, 1) := by decide +kernel
theorem d_Model_run_17 : decode b_Model_run 17 = .ok (.iconst 1, 1) := by decide +kernel
theorem d_Model_run_18 : decode b_Model_run 18 = .ok (.invokevirtual 62, 3) := by decide +kernel
theorem d_Model_run_21 : decode b_Model_run 21 = .ok (.ireturn, 1) := by decide +kernel
theorem d_Model_run_22 : decode b_Model_run 22 = .ok (.aload_n 0, 1) := by decide +kernel
theorem d_Model_run_23 : decode b_Model_run 23 = .ok (.getfield 7, 3) := by decide +kernel
theorem d_Model_run_26 : decode b_Model_run 26 = .ok (.bipush 10, 2) := by decide +kernel
theorem d_Model_run_28 : decode b_Model_run 28 = .ok (.iaload, 1) := by decide +kernel
theorem d_Model_run_29 : decode b_Model_run 29 = .ok (.istore_n 2, 1) := by decide +kernel
theorem d_Model_run_30 : decode b_Model_run 30 = .ok (.aload_n 0, 1) := by decide +kernel
theorem d_Model_run_31 : decode b_Model_run 31 = .ok (.iload_n 1, 1) := by decide +kernel
theorem d_Model_run_32 : decode b_Model_run 32 = .ok (.invokevirtual 349, 3) := by decide +kernel
theorem d_Model_run_35 : decode b_Model_run 35 = .ok (.aload_n 0, 1) := by decide +kernel
theorem d_Model_run_36 : decode b_Model_run 36 = .ok (.getfield 7, 3) := by decide +kernel
theorem d_Model_run_39 : decode b_Model_run 39 = .ok (.bipush 10, 2) := by decide +kernel
theorem d_Model_run_41 : decode b_Model_run 41 = .ok (.iaload, 1) := by decide +kernel
theorem d_Model_run_42 : decode b_Model_run 42 = .ok (.iload_n 2, 1) := by decide +kernel
theorem d_Model_run_43 : decode b_Model_run 43 = .ok (.isub, 1) := by decide +kernel
theorem d_Model_run_44 : decode b_Model_run 44 = .ok (.ireturn, 1) := by decide +kernel
def F_Model_run (a0 : Int32) (σ : zSt) : Option (Int32 × zSt) :=
  (F_Model_isBetween a0 (1 : Int32) (500 : Int32) (zst σ 4 80 8 (0 : Int32))).bind fun r2 => if r2 = 0 then (bd2 (F_Model_fail (1 : Int32) (zst σ 4 80 8 (0 : Int32))) fun r6 σ7 => some (r6, σ7)) else ((F_Model_passMinutes a0 (zst σ 4 80 8 (0 : Int32))).bind fun σ4 => some (((σ4.1 4 81 10) - ((zst σ 4 80 8 (0 : Int32)).1 4 81 10)), σ4))
set_option maxHeartbeats 4000000 in
set_option maxRecDepth 100000 in
theorem c_Model_run {l : Launch} {G : zLA} (hm : zml G) {a0 : Int32} {σ : zSt} {r : Int32} {σ' : zSt} (hf : F_Model_run a0 σ = some (r, σ')) : zM l G y_Model_run (zws y_Model_run b_Model_run 3 (some .int)) rm_Model_run [.ref (zad G 4 80), .int a0] σ (some (.int r)) σ' := by
  refine z_ofM (own := "VillageWavesModel") (lv := [(0, .ref (zad G 4 80)), (1, .int a0)]) (by decide +kernel) rfl rfl (Nat.le_of_ble_eq_true rfl) (fun p e s m args below meth c C => ?_)
  rw [F_Model_run] at hf
  refine z_aload_n C d_Model_run_0 0 rfl rfl ?_
  refine z_iconst C d_Model_run_1 zki_0 ?_
  refine pf_Model_48 C (zm4 hm 80 rfl) rfl (Nat.le_of_ble_eq_true rfl) rfl d_Model_run_2 ?_
  refine z_iload_n C d_Model_run_5 1 rfl rfl ?_
  refine z_iconst C d_Model_run_6 zki_1 ?_
  refine z_sipush C d_Model_run_7 zks_500 ?_
  obtain ⟨r2, h1, hf⟩ := bd_s hf
  refine z_cSi C kl_Model_51 (c_Model_isBetween h1) rfl rfl (Nat.le_of_ble_eq_true rfl) ⟨(Nat.le_of_ble_eq_true rfl), (Nat.le_of_ble_eq_true rfl)⟩ ⟨(Nat.le_of_ble_eq_true rfl), (Nat.le_of_ble_eq_true rfl)⟩ d_Model_run_10 ?_
  refine z_if_ne (tgt := 22) C d_Model_run_13 rfl (fun h8 => ?_) (fun h8 => ?_)
  · have hf := iff_f hf h8
    refine z_aload_n C d_Model_run_22 0 rfl rfl ?_
    refine gf_Model_7 C (zm4 hm 80 rfl) rfl rfl d_Model_run_23 ?_
    refine z_bipush C d_Model_run_26 zkb_10 ?_
    refine z_iald C (zm4 hm 81 rfl) rfl (inb_in (by decide)) zc_10 d_Model_run_28 ?_
    refine z_istore_n C d_Model_run_29 rfl (by decide) ?_
    refine z_aload_n C d_Model_run_30 1 rfl rfl ?_
    refine z_iload_n C d_Model_run_31 2 rfl rfl ?_
    obtain ⟨σ4, h3, hf⟩ := bd_s hf
    refine z_cVv C kl_Model_349 rfl (c_Model_passMinutes hm h3) (zm4 hm 80 rfl) rfl rfl rfl (Nat.le_of_ble_eq_true rfl) ⟨(Nat.le_of_ble_eq_true rfl), (Nat.le_of_ble_eq_true rfl)⟩ ⟨(Nat.le_of_ble_eq_true rfl), (Nat.le_of_ble_eq_true rfl)⟩ d_Model_run_32 ?_
    refine z_aload_n C d_Model_run_35 1 rfl rfl ?_
    refine gf_Model_7 C (zm4 hm 80 rfl) rfl rfl d_Model_run_36 ?_
    refine z_bipush C d_Model_run_39 zkb_10 ?_
    refine z_iald C (zm4 hm 81 rfl) rfl (inb_in (by decide)) zc_10 d_Model_run_41 ?_
    refine z_iload_n C d_Model_run_42 0 rfl rfl ?_
    refine z_isub C d_Model_run_43 ?_
    cases hf
    exact z_iret C rfl (Nat.le_of_ble_eq_true rfl) (Nat.le_of_ble_eq_true rfl) d_Model_run_44
  · have hf := iff_t hf h8
    refine z_aload_n C d_Model_run_16 0 rfl rfl ?_
    refine z_iconst C d_Model_run_17 zki_1 ?_
    obtain ⟨r6, σ7, h5, hf⟩ := bd2_s hf
    refine z_cVi C kl_Model_62 rfl (c_Model_fail hm h5) (zm4 hm 80 rfl) rfl rfl rfl (Nat.le_of_ble_eq_true rfl) ⟨(Nat.le_of_ble_eq_true rfl), (Nat.le_of_ble_eq_true rfl)⟩ ⟨(Nat.le_of_ble_eq_true rfl), (Nat.le_of_ble_eq_true rfl)⟩ d_Model_run_18 ?_
    cases hf
    exact z_iret C rfl (Nat.le_of_ble_eq_true rfl) (Nat.le_of_ble_eq_true rfl) d_Model_run_21
abbrev rm_Model_wishes : Room := { frames := 9, cells := 0, slots := 0, locals := 200 }
theorem d_Model_wishes_0 : decode b_Model_wishes 0 = .ok (.aload_n 0, 1) := by decide +kernel
theorem d_Model_wishes_1 : decode b_Model_wishes 1 = .ok (.iconst 0, 1) := by decide +kernel
theorem d_Model_wishes_2 : decode b_Model_wishes 2 = .ok (.putfield 48, 3) := by decide +kernel
theorem d_Model_wishes_5 : decode b_Model_wishes 5 = .ok (.aload_n 0, 1) := by decide +kernel
theorem d_Model_wishes_6 : decode b_Model_wishes 6 = .ok (.getfield 7, 3) := by decide +kernel
theorem d_Model_wishes_9 : decode b_Model_wishes 9 = .ok (.iconst 0, 1) := by decide +kernel
theorem d_Model_wishes_10 : decode b_Model_wishes 10 = .ok (.aload_n 0, 1) := by decide +kernel
theorem d_Model_wishes_11 : decode b_Model_wishes 11 = .ok (.getfield 16, 3) := by decide +kernel
theorem d_Model_wishes_14 : decode b_Model_wishes 14 = .ok (.iconst 0, 1) := by decide +kernel
theorem d_Model_wishes_15 : decode b_Model_wishes 15 = .ok (.invokestatic 171, 3) := by decide +kernel
theorem d_Model_wishes_18 : decode b_Model_wishes 18 = .ok (.aload_n 0, 1) := by decide +kernel
theorem d_Model_wishes_19 : decode b_Model_wishes 19 = .ok (.invokevirtual 334, 3) := by decide +kernel
theorem d_Model_wishes_22 : decode b_Model_wishes 22 = .ok (.aload_n 0, 1) := by decide +kernel
theorem d_Model_wishes_23 : decode b_Model_wishes 23 = .ok (.invokevirtual 307, 3) := by decide +kernel
theorem d_Model_wishes_26 : decode b_Model_wishes 26 = .ok (.istore_n 1, 1) := by decide +kernel
theorem d_Model_wishes_27 : decode b_Model_wishes 27 = .ok (.aload_n 0, 1) := by decide +kernel
theorem d_Model_wishes_28 : decode b_Model_wishes 28 = .ok (.getfield 16, 3) := by decide +kernel
theorem d_Model_wishes_31 : decode b_Model_wishes 31 = .ok (.iconst 0, 1) := by decide +kernel
theorem d_Model_wishes_32 : decode b_Model_wishes 32 = .ok (.aload_n 0, 1) := by decide +kernel
theorem d_Model_wishes_33 : decode b_Model_wishes 33 = .ok (.getfield 7, 3) := by decide +kernel
theorem d_Model_wishes_36 : decode b_Model_wishes 36 = .ok (.iconst 0, 1) := by decide +kernel
theorem d_Model_wishes_37 : decode b_Model_wishes 37 = .ok (.invokestatic 171, 3) := by decide +kernel
theorem d_Model_wishes_40 : decode b_Model_wishes 40 = .ok (.iload_n 1, 1) := by decide +kernel
theorem d_Model_wishes_41 : decode b_Model_wishes 41 = .ok (.ireturn, 1) := by decide +kernel
def F_Model_wishes (σ : zSt) : Option (Int32 × zSt) :=
  (F_Model_copy 4 81 (0 : Int32) 4 83 (0 : Int32) (zst σ 4 80 8 (0 : Int32))).bind fun σ2 => (F_Model_beginMinute σ2).bind fun σ4 => bd2 (F_Model_wishing σ4) fun r6 σ7 => (F_Model_copy 4 83 (0 : Int32) 4 81 (0 : Int32) σ7).bind fun σ9 => some (r6, σ9)
set_option maxHeartbeats 4000000 in
set_option maxRecDepth 100000 in
theorem c_Model_wishes {l : Launch} {G : zLA} (hm : zml G) {σ : zSt} {r : Int32} {σ' : zSt} (hf : F_Model_wishes σ = some (r, σ')) : zM l G y_Model_wishes (zws y_Model_wishes b_Model_wishes 2 (some .int)) rm_Model_wishes [.ref (zad G 4 80)] σ (some (.int r)) σ' := by
  refine z_ofM (own := "VillageWavesModel") (lv := [(0, .ref (zad G 4 80))]) (by decide +kernel) rfl rfl (Nat.le_of_ble_eq_true rfl) (fun p e s m args below meth c C => ?_)
  rw [F_Model_wishes] at hf
  refine z_aload_n C d_Model_wishes_0 0 rfl rfl ?_
  refine z_iconst C d_Model_wishes_1 zki_0 ?_
  refine pf_Model_48 C (zm4 hm 80 rfl) rfl (Nat.le_of_ble_eq_true rfl) rfl d_Model_wishes_2 ?_
  refine z_aload_n C d_Model_wishes_5 0 rfl rfl ?_
  refine gf_Model_7 C (zm4 hm 80 rfl) rfl rfl d_Model_wishes_6 ?_
  refine z_iconst C d_Model_wishes_9 zki_0 ?_
  refine z_aload_n C d_Model_wishes_10 0 rfl rfl ?_
  refine gf_Model_16 C (zm4 hm 80 rfl) rfl rfl d_Model_wishes_11 ?_
  refine z_iconst C d_Model_wishes_14 zki_0 ?_
  obtain ⟨σ2, h1, hf⟩ := bd_s hf
  refine z_cSv C kl_Model_171 (c_Model_copy ⟨(zm4 hm 81 rfl), (fun _ _ _ _ => rfl)⟩ ⟨(zm4 hm 83 rfl), (fun _ _ _ _ => rfl)⟩ h1) rfl rfl (Nat.le_of_ble_eq_true rfl) ⟨(Nat.le_of_ble_eq_true rfl), (Nat.le_of_ble_eq_true rfl)⟩ ⟨(Nat.le_of_ble_eq_true rfl), (Nat.le_of_ble_eq_true rfl)⟩ d_Model_wishes_15 ?_
  refine z_aload_n C d_Model_wishes_18 0 rfl rfl ?_
  obtain ⟨σ4, h3, hf⟩ := bd_s hf
  refine z_cVv C kl_Model_334 rfl (c_Model_beginMinute hm h3) (zm4 hm 80 rfl) rfl rfl rfl (Nat.le_of_ble_eq_true rfl) ⟨(Nat.le_of_ble_eq_true rfl), (Nat.le_of_ble_eq_true rfl)⟩ ⟨(Nat.le_of_ble_eq_true rfl), (Nat.le_of_ble_eq_true rfl)⟩ d_Model_wishes_19 ?_
  refine z_aload_n C d_Model_wishes_22 0 rfl rfl ?_
  obtain ⟨r6, σ7, h5, hf⟩ := bd2_s hf
  refine z_cVi C kl_Model_307 rfl (c_Model_wishing hm h5) (zm4 hm 80 rfl) rfl rfl rfl (Nat.le_of_ble_eq_true rfl) ⟨(Nat.le_of_ble_eq_true rfl), (Nat.le_of_ble_eq_true rfl)⟩ ⟨(Nat.le_of_ble_eq_true rfl), (Nat.le_of_ble_eq_true rfl)⟩ d_Model_wishes_23 ?_
  refine z_istore_n C d_Model_wishes_26 rfl (by decide) ?_
  refine z_aload_n C d_Model_wishes_27 1 rfl rfl ?_
  refine gf_Model_16 C (zm4 hm 80 rfl) rfl rfl d_Model_wishes_28 ?_
  refine z_iconst C d_Model_wishes_31 zki_0 ?_
  refine z_aload_n C d_Model_wishes_32 1 rfl rfl ?_
  refine gf_Model_7 C (zm4 hm 80 rfl) rfl rfl d_Model_wishes_33 ?_
  refine z_iconst C d_Model_wishes_36 zki_0 ?_
  obtain ⟨σ9, h8, hf⟩ := bd_s hf
  refine z_cSv C kl_Model_171 (c_Model_copy ⟨(zm4 hm 83 rfl), (fun _ _ _ _ => rfl)⟩ ⟨(zm4 hm 81 rfl), (fun _ _ _ _ => rfl)⟩ h8) rfl rfl (Nat.le_of_ble_eq_true rfl) ⟨(Nat.le_of_ble_eq_true rfl), (Nat.le_of_ble_eq_true rfl)⟩ ⟨(Nat.le_of_ble_eq_true rfl), (Nat.le_of_ble_eq_true rfl)⟩ d_Model_wishes_37 ?_
  refine z_iload_n C d_Model_wishes_40 0 rfl rfl ?_
  cases hf
  exact z_iret C rfl (Nat.le_of_ble_eq_true rfl) (Nat.le_of_ble_eq_true rfl) d_Model_wishes_41
abbrev rm_Model_next : Room := { frames := 10, cells := 0, slots := 0, locals := 223 }
theorem d_Model_next_0 : decode b_Model_next 0 = .ok (.aload_n 0, 1) := by decide +kernel
theorem d_Model_next_1 : decode b_Model_next 1 = .ok (.iconst 0, 1) := by decide +kernel
theorem d_Model_next_2 : decode b_Model_next 2 = .ok (.putfield 48, 3) := by decide +kernel
theorem d_Model_next_5 : decode b_Model_next 5 = .ok (.aload_n 0, 1) := by decide +kernel
theorem d_Model_next_6 : decode b_Model_next 6 = .ok (.getfield 7, 3) := by decide +kernel
theorem d_Model_next_9 : decode b_Model_next 9 = .ok (.iconst 0, 1) := by decide +kernel
theorem d_Model_next_10 : decode b_Model_next 10 = .ok (.aload_n 0, 1) := by decide +kernel
theorem d_Model_next_11 : decode b_Model_next 11 = .ok (.getfield 16, 3) := by decide +kernel
theorem d_Model_next_14 : decode b_Model_next 14 = .ok (.iconst 0, 1) := by decide +kernel
theorem d_Model_next_15 : decode b_Model_next 15 = .ok (.invokestatic 171, 3) := by decide +kernel
theorem d_Model_next_18 : decode b_Model_next 18 = .ok (.aload_n 0, 1) := by decide +kernel
theorem d_Model_next_19 : decode b_Model_next 19 = .ok (.invokevirtual 334, 3) := by decide +kernel
theorem d_Model_next_22 : decode b_Model_next 22 = .ok (.aload_n 0, 1) := by decide +kernel
theorem d_Model_next_23 : decode b_Model_next 23 = .ok (.invokevirtual 337, 3) := by decide +kernel
theorem d_Model_next_26 : decode b_Model_next 26 = .ok (.istore_n 1, 1) := by decide +kernel
theorem d_Model_next_27 : decode b_Model_next 27 = .ok (.aload_n 0, 1) := by decide +kernel
theorem d_Model_next_28 : decode b_Model_next 28 = .ok (.getfield 16, 3) := by decide +kernel
theorem d_Model_next_31 : decode b_Model_next 31 = .ok (.iconst 0, 1) := by decide +kernel
theorem d_Model_next_32 : decode b_Model_next 32 = .ok (.aload_n 0, 1) := by decide +kernel
theorem d_Model_next_33 : decode b_Model_next 33 = .ok (.getfield 7, 3) := by decide +kernel
theorem d_Model_next_36 : decode b_Model_next 36 = .ok (.iconst 0, 1) := by decide +kernel
theorem d_Model_next_37 : decode b_Model_next 37 = .ok (.invokestatic 171, 3) := by decide +kernel
theorem d_Model_next_40 : decode b_Model_next 40 = .ok (.iload_n 1, 1) := by decide +kernel
theorem d_Model_next_41 : decode b_Model_next 41 = .ok (.ireturn, 1) := by decide +kernel
def F_Model_next (σ : zSt) : Option (Int32 × zSt) :=
  (F_Model_copy 4 81 (0 : Int32) 4 83 (0 : Int32) (zst σ 4 80 8 (0 : Int32))).bind fun σ2 => (F_Model_beginMinute σ2).bind fun σ4 => bd2 (F_Model_drawSpeaker σ4) fun r6 σ7 => (F_Model_copy 4 83 (0 : Int32) 4 81 (0 : Int32) σ7).bind fun σ9 => some (r6, σ9)
set_option maxHeartbeats 4000000 in
set_option maxRecDepth 100000 in
theorem c_Model_next {l : Launch} {G : zLA} (hm : zml G) {σ : zSt} {r : Int32} {σ' : zSt} (hf : F_Model_next σ = some (r, σ')) : zM l G y_Model_next (zws y_Model_next b_Model_next 2 (some .int)) rm_Model_next [.ref (zad G 4 80)] σ (some (.int r)) σ' := by
  refine z_ofM (own := "VillageWavesModel") (lv := [(0, .ref (zad G 4 80))]) (by decide +kernel) rfl rfl (Nat.le_of_ble_eq_true rfl) (fun p e s m args below meth c C => ?_)
  rw [F_Model_next] at hf
  refine z_aload_n C d_Model_next_0 0 rfl rfl ?_
  refine z_iconst C d_Model_next_1 zki_0 ?_
  refine pf_Model_48 C (zm4 hm 80 rfl) rfl (Nat.le_of_ble_eq_true rfl) rfl d_Model_next_2 ?_
  refine z_aload_n C d_Model_next_5 0 rfl rfl ?_
  refine gf_Model_7 C (zm4 hm 80 rfl) rfl rfl d_Model_next_6 ?_
  refine z_iconst C d_Model_next_9 zki_0 ?_
  refine z_aload_n C d_Model_next_10 0 rfl rfl ?_
  refine gf_Model_16 C (zm4 hm 80 rfl) rfl rfl d_Model_next_11 ?_
  refine z_iconst C d_Model_next_14 zki_0 ?_
  obtain ⟨σ2, h1, hf⟩ := bd_s hf
  refine z_cSv C kl_Model_171 (c_Model_copy ⟨(zm4 hm 81 rfl), (fun _ _ _ _ => rfl)⟩ ⟨(zm4 hm 83 rfl), (fun _ _ _ _ => rfl)⟩ h1) rfl rfl (Nat.le_of_ble_eq_true rfl) ⟨(Nat.le_of_ble_eq_true rfl), (Nat.le_of_ble_eq_true rfl)⟩ ⟨(Nat.le_of_ble_eq_true rfl), (Nat.le_of_ble_eq_true rfl)⟩ d_Model_next_15 ?_
  refine z_aload_n C d_Model_next_18 0 rfl rfl ?_
  obtain ⟨σ4, h3, hf⟩ := bd_s hf
  refine z_cVv C kl_Model_334 rfl (c_Model_beginMinute hm h3) (zm4 hm 80 rfl) rfl rfl rfl (Nat.le_of_ble_eq_true rfl) ⟨(Nat.le_of_ble_eq_true rfl), (Nat.le_of_ble_eq_true rfl)⟩ ⟨(Nat.le_of_ble_eq_true rfl), (Nat.le_of_ble_eq_true rfl)⟩ d_Model_next_19 ?_
  refine z_aload_n C d_Model_next_22 0 rfl rfl ?_
  obtain ⟨r6, σ7, h5, hf⟩ := bd2_s hf
  refine z_cVi C kl_Model_337 rfl (c_Model_drawSpeaker hm h5) (zm4 hm 80 rfl) rfl rfl rfl (Nat.le_of_ble_eq_true rfl) ⟨(Nat.le_of_ble_eq_true rfl), (Nat.le_of_ble_eq_true rfl)⟩ ⟨(Nat.le_of_ble_eq_true rfl), (Nat.le_of_ble_eq_true rfl)⟩ d_Model_next_23 ?_
  refine z_istore_n C d_Model_next_26 rfl (by decide) ?_
  refine z_aload_n C d_Model_next_27 1 rfl rfl ?_
  refine gf_Model_16 C (zm4 hm 80 rfl) rfl rfl d_Model_next_28 ?_
  refine z_iconst C d_Model_next_31 zki_0 ?_
  refine z_aload_n C d_Model_next_32 1 rfl rfl ?_
  refine gf_Model_7 C (zm4 hm 80 rfl) rfl rfl d_Model_next_33 ?_
  refine z_iconst C d_Model_next_36 zki_0 ?_
  obtain ⟨σ9, h8, hf⟩ := bd_s hf
  refine z_cSv C kl_Model_171 (c_Model_copy ⟨(zm4 hm 83 rfl), (fun _ _ _ _ => rfl)⟩ ⟨(zm4 hm 81 rfl), (fun _ _ _ _ => rfl)⟩ h8) rfl rfl (Nat.le_of_ble_eq_true rfl) ⟨(Nat.le_of_ble_eq_true rfl), (Nat.le_of_ble_eq_true rfl)⟩ ⟨(Nat.le_of_ble_eq_true rfl), (Nat.le_of_ble_eq_true rfl)⟩ d_Model_next_37 ?_
  refine z_iload_n C d_Model_next_40 0 rfl rfl ?_
  cases hf
  exact z_iret C rfl (Nat.le_of_ble_eq_true rfl) (Nat.le_of_ble_eq_true rfl) d_Model_next_41
abbrev rm_Model_chance : Room := { frames := 9, cells := 0, slots := 0, locals := 200 }
theorem d_Model_chance_0 : decode b_Model_chance 0 = .ok (.aload_n 0, 1) := by decide +kernel
theorem d_Model_chance_1 : decode b_Model_chance 1 = .ok (.aload_n 0, 1) := by decide +kernel
theorem d_Model_chance_2 : decode b_Model_chance 2 = .ok (.iload_n 1, 1) := by decide +kernel
theorem d_Model_chance_3 : decode b_Model_chance 3 = .ok (.invokevirtual 188, 3) := by decide +kernel
theorem d_Model_chance_6 : decode b_Model_chance 6 = .ok (.ifCond .eq 7, 3) := by decide +kernel
theorem d_Model_chance_9 : decode b_Model_chance 9 = .ok (.iconst 0, 1) := by decide +kernel
theorem d_Model_chance_10 : decode b_Model_chance 10 = .ok (.goto 4, 3) := by decide +kernel
theorem d_Model_chance_13 : decode b_Model_chance 13 = .ok (.iconst 1, 1) := by decide +kernel
theorem d_Model_chance_14 : decode b_Model_chance 14 = .ok (.putfield 48, 3) := by decide +kernel
theorem d_Model_chance_17 : decode b_Model_chance 17 = .ok (.aload_n 0, 1) := by decide +kernel
theorem d_Model_chance_18 : decode b_Model_chance 18 = .ok (.getfield 48, 3) := by decide +kernel
theorem d_Model_chance_21 : decode b_Model_chance 21 = .ok (.ifCond .eq 5, 3) := by decide +kernel
theorem d_Model_chance_24 : decode b_Model_chance 24 = .ok (.dconst 0, 1) := by decide +kernel
theorem d_Model_chance_25 : decode b_Model_chance 25 = .ok (.dreturn, 1) := by decide +kernel
theorem d_Model_chance_26 : decode b_Model_chance 26 = .ok (.aload_n 0, 1) := by decide +kernel
theorem d_Model_chance_27 : decode b_Model_chance 27 = .ok (.getfield 7, 3) := by decide +kernel
theorem d_Model_chance_30 : decode b_Model_chance 30 = .ok (.iconst 0, 1) := by decide +kernel
theorem d_Model_chance_31 : decode b_Model_chance 31 = .ok (.aload_n 0, 1) := by decide +kernel
theorem d_Model_chance_32 : decode b_Model_chance 32 = .ok (.getfield 16, 3) := by decide +kernel
theorem d_Model_chance_35 : decode b_Model_chance 35 = .ok (.iconst 0, 1) := by decide +kernel
theorem d_Model_chance_36 : decode b_Model_chance 36 = .ok (.invokestatic 171, 3) := by decide +kernel
theorem d_Model_chance_39 : decode b_Model_chance 39 = .ok (.aload_n 0, 1) := by decide +kernel
theorem d_Model_chance_40 : decode b_Model_chance 40 = .ok (.invokevirtual 334, 3) := by decide +kernel
theorem d_Model_chance_43 : decode b_Model_chance 43 = .ok (.aload_n 0, 1) := by decide +kernel
theorem d_Model_chance_44 : decode b_Model_chance 44 = .ok (.invokevirtual 307, 3) := by decide +kernel
theorem d_Model_chance_47 : decode b_Model_chance 47 = .ok (.istore_n 2, 1) := by decide +kernel
theorem d_Model_chance_48 : decode b_Model_chance 48 = .ok (.aload_n 0, 1) := by decide +kernel
theorem d_Model_chance_49 : decode b_Model_chance 49 = .ok (.getfield 16, 3) := by decide +kernel
theorem d_Model_chance_52 : decode b_Model_chance 52 = .ok (.iconst 0, 1) := by decide +kernel
theorem d_Model_chance_53 : decode b_Model_chance 53 = .ok (.aload_n 0, 1) := by decide +kernel
theorem d_Model_chance_54 : decode b_Model_chance 54 = .ok (.getfield 7, 3) := by decide +kernel
theorem d_Model_chance_57 : decode b_Model_chance 57 = .ok (.iconst 0, 1) := by decide +kernel
theorem d_Model_chance_58 : decode b_Model_chance 58 = .ok (.invokestatic 171, 3) := by decide +kernel
theorem d_Model_chance_61 : decode b_Model_chance 61 = .ok (.iload_n 2, 1) := by decide +kernel
theorem d_Model_chance_62 : decode b_Model_chance 62 = .ok (.iload_n 1, 1) := by decide +kernel
theorem d_Model_chance_63 : decode b_Model_chance 63 = .ok (.ishr, 1) := by decide +kernel
theorem d_Model_chance_64 : decode b_Model_chance 64 = .ok (.iconst 1, 1) := by decide +kernel
theorem d_Model_chance_65 : decode b_Model_chance 65 = .ok (.iand, 1) := by decide +kernel
theorem d_Model_chance_66 : decode b_Model_chance 66 = .ok (.ifCond .ne 7, 3) := by decide +kernel
theorem d_Model_chance_69 : decode b_Model_chance 69 = .ok (.dconst 0, 1) := by decide +kernel
theorem d_Model_chance_70 : decode b_Model_chance 70 = .ok (.goto 17, 3) := by decide +kernel
theorem d_Model_chance_73 : decode b_Model_chance 73 = .ok (.aload_n 0, 1) := by decide +kernel
theorem d_Model_chance_74 : decode b_Model_chance 74 = .ok (.iload_n 1, 1) := by decide +kernel
theorem d_Model_chance_75 : decode b_Model_chance 75 = .ok (.iconst 4, 1) := by decide +kernel
theorem d_Model_chance_76 : decode b_Model_chance 76 = .ok (.invokevirtual 191, 3) := by decide +kernel
theorem d_Model_chance_79 : decode b_Model_chance 79 = .ok (.i2d, 1) := by decide +kernel
theorem d_Model_chance_80 : decode b_Model_chance 80 = .ok (.aload_n 0, 1) := by decide +kernel
theorem d_Model_chance_81 : decode b_Model_chance 81 = .ok (.iload_n 2, 1) := by decide +kernel
theorem d_Model_chance_82 : decode b_Model_chance 82 = .ok (.invokevirtual 310, 3) := by decide +kernel
theorem d_Model_chance_85 : decode b_Model_chance 85 = .ok (.i2d, 1) := by decide +kernel
theorem d_Model_chance_86 : decode b_Model_chance 86 = .ok (.ddiv, 1) := by decide +kernel
theorem d_Model_chance_87 : decode b_Model_chance 87 = .ok (.dreturn, 1) := by decide +kernel
def B_Model_chance_14 (x1 : Int32) (y1 : Int32) (σ : zSt) : Option (UInt64 × zSt) :=
  if ((zst σ 4 80 8 y1).1 4 80 8) = 0 then ((F_Model_copy 4 81 (0 : Int32) 4 83 (0 : Int32) (zst σ 4 80 8 y1)).bind fun σ5 => (F_Model_beginMinute σ5).bind fun σ7 => bd2 (F_Model_wishing σ7) fun r9 σ10 => (F_Model_copy 4 83 (0 : Int32) 4 81 (0 : Int32) σ10).bind fun σ12 => if ((r9 >>> (x1 &&& 31)) &&& (1 : Int32)) = 0 then some (FP.dconst0, σ12) else ((F_Model_of x1 (4 : Int32) σ12).bind fun r14 => (F_Model_shares r9 σ12).bind fun r16 => if zn64 (FP.ddiv (FP.i2d r14) (FP.i2d r16)) = true then some ((FP.ddiv (FP.i2d r14) (FP.i2d r16)), σ12) else none)) else some (FP.dconst0, (zst σ 4 80 8 y1))
set_option maxHeartbeats 4000000 in
set_option maxRecDepth 100000 in
theorem w_Model_chance_14 {l : Launch} {G : zLA} {p : Program} {e : Env} {s : State} {m : MethodId} {args : Array Value} {below : List Frame} {meth : Method} {c : Code} (C : zCx G p s m args meth c "VillageWavesModel" b_Model_chance 3 (some .double)) (hm : zml G) {x1 : Int32} {y1 : Int32} {σ : zSt} {r : UInt64} {σ' : zSt} (hf : B_Model_chance_14 x1 y1 σ = some (r, σ')) : zWV G p l e rm_Model_chance s m args below meth c 3 0 0 (zQ G below args s rm_Model_chance (some (.double r)) σ') 14 [(0, .ref (zad G 4 80)), (1, .int x1)] [.int y1, .ref (zad G 4 80)] σ := by
  rw [B_Model_chance_14] at hf
  refine pf_Model_48 C (zm4 hm 80 rfl) rfl (Nat.le_of_ble_eq_true rfl) rfl d_Model_chance_14 ?_
  refine z_aload_n C d_Model_chance_17 0 rfl rfl ?_
  refine gf_Model_48 C (zm4 hm 80 rfl) rfl rfl d_Model_chance_18 ?_
  refine z_if_eq (tgt := 26) C d_Model_chance_21 rfl (fun h19 => ?_) (fun h19 => ?_)
  · have hf := iff_t hf h19
    refine z_aload_n C d_Model_chance_26 0 rfl rfl ?_
    refine gf_Model_7 C (zm4 hm 80 rfl) rfl rfl d_Model_chance_27 ?_
    refine z_iconst C d_Model_chance_30 zki_0 ?_
    refine z_aload_n C d_Model_chance_31 0 rfl rfl ?_
    refine gf_Model_16 C (zm4 hm 80 rfl) rfl rfl d_Model_chance_32 ?_
    refine z_iconst C d_Model_chance_35 zki_0 ?_
    obtain ⟨σ5, h4, hf⟩ := bd_s hf
    refine z_cSv C kl_Model_171 (c_Model_copy ⟨(zm4 hm 81 rfl), (fun _ _ _ _ => rfl)⟩ ⟨(zm4 hm 83 rfl), (fun _ _ _ _ => rfl)⟩ h4) rfl rfl (Nat.le_of_ble_eq_true rfl) ⟨(Nat.le_of_ble_eq_true rfl), (Nat.le_of_ble_eq_true rfl)⟩ ⟨(Nat.le_of_ble_eq_true rfl), (Nat.le_of_ble_eq_true rfl)⟩ d_Model_chance_36 ?_
    refine z_aload_n C d_Model_chance_39 0 rfl rfl ?_
    obtain ⟨σ7, h6, hf⟩ := bd_s hf
    refine z_cVv C kl_Model_334 rfl (c_Model_beginMinute hm h6) (zm4 hm 80 rfl) rfl rfl rfl (Nat.le_of_ble_eq_true rfl) ⟨(Nat.le_of_ble_eq_true rfl), (Nat.le_of_ble_eq_true rfl)⟩ ⟨(Nat.le_of_ble_eq_true rfl), (Nat.le_of_ble_eq_true rfl)⟩ d_Model_chance_40 ?_
    refine z_aload_n C d_Model_chance_43 0 rfl rfl ?_
    obtain ⟨r9, σ10, h8, hf⟩ := bd2_s hf
    refine z_cVi C kl_Model_307 rfl (c_Model_wishing hm h8) (zm4 hm 80 rfl) rfl rfl rfl (Nat.le_of_ble_eq_true rfl) ⟨(Nat.le_of_ble_eq_true rfl), (Nat.le_of_ble_eq_true rfl)⟩ ⟨(Nat.le_of_ble_eq_true rfl), (Nat.le_of_ble_eq_true rfl)⟩ d_Model_chance_44 ?_
    refine z_istore_n C d_Model_chance_47 rfl (by decide) ?_
    refine z_aload_n C d_Model_chance_48 1 rfl rfl ?_
    refine gf_Model_16 C (zm4 hm 80 rfl) rfl rfl d_Model_chance_49 ?_
    refine z_iconst C d_Model_chance_52 zki_0 ?_
    refine z_aload_n C d_Model_chance_53 1 rfl rfl ?_
    refine gf_Model_7 C (zm4 hm 80 rfl) rfl rfl d_Model_chance_54 ?_
    refine z_iconst C d_Model_chance_57 zki_0 ?_
    obtain ⟨σ12, h11, hf⟩ := bd_s hf
    refine z_cSv C kl_Model_171 (c_Model_copy ⟨(zm4 hm 83 rfl), (fun _ _ _ _ => rfl)⟩ ⟨(zm4 hm 81 rfl), (fun _ _ _ _ => rfl)⟩ h11) rfl rfl (Nat.le_of_ble_eq_true rfl) ⟨(Nat.le_of_ble_eq_true rfl), (Nat.le_of_ble_eq_true rfl)⟩ ⟨(Nat.le_of_ble_eq_true rfl), (Nat.le_of_ble_eq_true rfl)⟩ d_Model_chance_58 ?_
    refine z_iload_n C d_Model_chance_61 0 rfl rfl ?_
    refine z_iload_n C d_Model_chance_62 2 rfl rfl ?_
    refine z_ishr C d_Model_chance_63 ?_
    refine z_iconst C d_Model_chance_64 zki_1 ?_
    refine z_iand C d_Model_chance_65 ?_
    refine z_if_ne (tgt := 73) C d_Model_chance_66 rfl (fun h18 => ?_) (fun h18 => ?_)
    · have hf := iff_f hf h18
      refine z_aload_n C d_Model_chance_73 1 rfl rfl ?_
      refine z_iload_n C d_Model_chance_74 2 rfl rfl ?_
      refine z_iconst C d_Model_chance_75 zki_4 ?_
      obtain ⟨r14, h13, hf⟩ := bd_s hf
      refine z_cVi C kl_Model_191 rfl (c_Model_of hm h13) (zm4 hm 80 rfl) rfl rfl rfl (Nat.le_of_ble_eq_true rfl) ⟨(Nat.le_of_ble_eq_true rfl), (Nat.le_of_ble_eq_true rfl)⟩ ⟨(Nat.le_of_ble_eq_true rfl), (Nat.le_of_ble_eq_true rfl)⟩ d_Model_chance_76 ?_
      refine z_i2d C d_Model_chance_79 ?_
      refine z_aload_n C d_Model_chance_80 1 rfl rfl ?_
      refine z_iload_n C d_Model_chance_81 0 rfl rfl ?_
      obtain ⟨r16, h15, hf⟩ := bd_s hf
      refine z_cVi C kl_Model_310 rfl (c_Model_shares hm h15) (zm4 hm 80 rfl) rfl rfl rfl (Nat.le_of_ble_eq_true rfl) ⟨(Nat.le_of_ble_eq_true rfl), (Nat.le_of_ble_eq_true rfl)⟩ ⟨(Nat.le_of_ble_eq_true rfl), (Nat.le_of_ble_eq_true rfl)⟩ d_Model_chance_82 ?_
      refine z_i2d C d_Model_chance_85 ?_
      obtain ⟨h17, hf⟩ := iff_g hf
      refine z_ddiv C d_Model_chance_86 (zn64_n h17) ?_
      cases hf
      exact z_dret C rfl (Nat.le_of_ble_eq_true rfl) (Nat.le_of_ble_eq_true rfl) d_Model_chance_87
    · have hf := iff_t hf h18
      refine z_dconst0 C d_Model_chance_69 ?_
      refine z_goto (tgt := 87) C d_Model_chance_70 rfl ?_
      cases hf
      exact z_dret C rfl (Nat.le_of_ble_eq_true rfl) (Nat.le_of_ble_eq_true rfl) d_Model_chance_87
  · have hf := iff_f hf h19
    refine z_dconst0 C d_Model_chance_24 ?_
    cases hf
    exact z_dret C rfl (Nat.le_of_ble_eq_true rfl) (Nat.le_of_ble_eq_true rfl) d_Model_chance_25
def F_Model_chance (a0 : Int32) (σ : zSt) : Option (UInt64 × zSt) :=
  (F_Model_isHouse a0 σ).bind fun r2 => if r2 = 0 then B_Model_chance_14 a0 (1 : Int32) σ else B_Model_chance_14 a0 (0 : Int32) σ
set_option maxHeartbeats 4000000 in
set_option maxRecDepth 100000 in
theorem c_Model_chance {l : Launch} {G : zLA} (hm : zml G) {a0 : Int32} {σ : zSt} {r : UInt64} {σ' : zSt} (hf : F_Model_chance a0 σ = some (r, σ')) : zM l G y_Model_chance (zws y_Model_chance b_Model_chance 3 (some .double)) rm_Model_chance [.ref (zad G 4 80), .int a0] σ (some (.double r)) σ' := by
  refine z_ofM (own := "VillageWavesModel") (lv := [(0, .ref (zad G 4 80)), (1, .int a0)]) (by decide +kernel) rfl rfl (Nat.le_of_ble_eq_true rfl) (fun p e s m args below meth c C => ?_)
  rw [F_Model_chance] at hf
  refine z_aload_n C d_Model_chance_0 0 rfl rfl ?_
  refine z_aload_n C d_Model_chance_1 0 rfl rfl ?_
  refine z_iload_n C d_Model_chance_2 1 rfl rfl ?_
  obtain ⟨r2, h1, hf⟩ := bd_s hf
  refine z_cVi C kl_Model_188 rfl (c_Model_isHouse hm h1) (zm4 hm 80 rfl) rfl rfl rfl (Nat.le_of_ble_eq_true rfl) ⟨(Nat.le_of_ble_eq_true rfl), (Nat.le_of_ble_eq_true rfl)⟩ ⟨(Nat.le_of_ble_eq_true rfl), (Nat.le_of_ble_eq_true rfl)⟩ d_Model_chance_3 ?_
  refine z_if_eq (tgt := 13) C d_Model_chance_6 rfl (fun h3 => ?_) (fun h3 => ?_)
  · have hf := iff_t hf h3
    refine z_iconst C d_Model_chance_13 zki_1 ?_
    exact z_sub [0, 1] rfl (w_Model_chance_14 C hm hf)
  · have hf := iff_f hf h3
    refine z_iconst C d_Model_chance_9 zki_0 ?_
    refine z_goto (tgt := 14) C d_Model_chance_10 rfl ?_
    exact z_sub [0, 1] rfl (w_Model_chance_14 C hm hf)
abbrev rm_Model_nearerOnes : Room := { frames := 2, cells := 0, slots := 0, locals := 46 }
theorem d_Model_nearerOnes_0 : decode b_Model_nearerOnes 0 = .ok (.iconst 0, 1) := by decide +kernel
theorem d_Model_nearerOnes_1 : decode b_Model_nearerOnes 1 = .ok (.istore_n 3, 1) := by decide +kernel
theorem d_Model_nearerOnes_2 : decode b_Model_nearerOnes 2 = .ok (.iconst 0, 1) := by decide +kernel
theorem d_Model_nearerOnes_3 : decode b_Model_nearerOnes 3 = .ok (.istore 4, 2) := by decide +kernel
theorem d_Model_nearerOnes_5 : decode b_Model_nearerOnes 5 = .ok (.iload 4, 2) := by decide +kernel
theorem d_Model_nearerOnes_7 : decode b_Model_nearerOnes 7 = .ok (.aload_n 0, 1) := by decide +kernel
theorem d_Model_nearerOnes_8 : decode b_Model_nearerOnes 8 = .ok (.getfield 7, 3) := by decide +kernel
theorem d_Model_nearerOnes_11 : decode b_Model_nearerOnes 11 = .ok (.bipush 6, 2) := by decide +kernel
theorem d_Model_nearerOnes_13 : decode b_Model_nearerOnes 13 = .ok (.iaload, 1) := by decide +kernel
theorem d_Model_nearerOnes_14 : decode b_Model_nearerOnes 14 = .ok (.if_icmp .ge 67, 3) := by decide +kernel
theorem d_Model_nearerOnes_17 : decode b_Model_nearerOnes 17 = .ok (.aload_n 0, 1) := by decide +kernel
theorem d_Model_nearerOnes_18 : decode b_Model_nearerOnes 18 = .ok (.iload_n 1, 1) := by decide +kernel
theorem d_Model_nearerOnes_19 : decode b_Model_nearerOnes 19 = .ok (.iload 4, 2) := by decide +kernel
theorem d_Model_nearerOnes_21 : decode b_Model_nearerOnes 21 = .ok (.invokevirtual 231, 3) := by decide +kernel
theorem d_Model_nearerOnes_24 : decode b_Model_nearerOnes 24 = .ok (.aload_n 0, 1) := by decide +kernel
theorem d_Model_nearerOnes_25 : decode b_Model_nearerOnes 25 = .ok (.iload_n 1, 1) := by decide +kernel
theorem d_Model_nearerOnes_26 : decode b_Model_nearerOnes 26 = .ok (.iload_n 2, 1) := by decide +kernel
theorem d_Model_nearerOnes_27 : decode b_Model_nearerOnes 27 = .ok (.invokevirtual 231, 3) := by decide +kernel
theorem d_Model_nearerOnes_30 : decode b_Model_nearerOnes 30 = .ok (.isub, 1) := by decide +kernel
theorem d_Model_nearerOnes_31 : decode b_Model_nearerOnes 31 = .ok (.istore 5, 2) := by decide +kernel
theorem d_Model_nearerOnes_33 : decode b_Model_nearerOnes 33 = .ok (.iload 4, 2) := by decide +kernel
theorem d_Model_nearerOnes_35 : decode b_Model_nearerOnes 35 = .ok (.iload_n 1, 1) := by decide +kernel
theorem d_Model_nearerOnes_36 : decode b_Model_nearerOnes 36 = .ok (.if_icmp .eq 23, 3) := by decide +kernel
theorem d_Model_nearerOnes_39 : decode b_Model_nearerOnes 39 = .ok (.iload 5, 2) := by decide +kernel
theorem d_Model_nearerOnes_41 : decode b_Model_nearerOnes 41 = .ok (.ifCond .lt 14, 3) := by decide +kernel
theorem d_Model_nearerOnes_44 : decode b_Model_nearerOnes 44 = .ok (.iload 5, 2) := by decide +kernel
theorem d_Model_nearerOnes_46 : decode b_Model_nearerOnes 46 = .ok (.ifCond .ne 13, 3) := by decide +kernel
theorem d_Model_nearerOnes_49 : decode b_Model_nearerOnes 49 = .ok (.iload 4, 2) := by decide +kernel
theorem d_Model_nearerOnes_51 : decode b_Model_nearerOnes 51 = .ok (.iload_n 2, 1) := by decide +kernel
theorem d_Model_nearerOnes_52 : decode b_Model_nearerOnes 52 = .ok (.if_icmp .ge 7, 3) := by decide +kernel
theorem d_Model_nearerOnes_55 : decode b_Model_nearerOnes 55 = .ok (.iconst 1, 1) := by decide +kernel
theorem d_Model_nearerOnes_56 : decode b_Model_nearerOnes 56 = .ok (.goto 4, 3) := by decide +kernel
theorem d_Model_nearerOnes_59 : decode b_Model_nearerOnes 59 = .ok (.iconst 0, 1) := by decide +kernel
theorem d_Model_nearerOnes_60 : decode b_Model_nearerOnes 60 = .ok (.istore 6, 2) := by decide +kernel
theorem d_Model_nearerOnes_62 : decode b_Model_nearerOnes 62 = .ok (.iload_n 3, 1) := by decide +kernel
theorem d_Model_nearerOnes_63 : decode b_Model_nearerOnes 63 = .ok (.iload 6, 2) := by decide +kernel
theorem d_Model_nearerOnes_65 : decode b_Model_nearerOnes 65 = .ok (.ifCond .eq 7, 3) := by decide +kernel
theorem d_Model_nearerOnes_68 : decode b_Model_nearerOnes 68 = .ok (.iconst 1, 1) := by decide +kernel
theorem d_Model_nearerOnes_69 : decode b_Model_nearerOnes 69 = .ok (.goto 4, 3) := by decide +kernel
theorem d_Model_nearerOnes_72 : decode b_Model_nearerOnes 72 = .ok (.iconst 0, 1) := by decide +kernel
theorem d_Model_nearerOnes_73 : decode b_Model_nearerOnes 73 = .ok (.iadd, 1) := by decide +kernel
theorem d_Model_nearerOnes_74 : decode b_Model_nearerOnes 74 = .ok (.istore_n 3, 1) := by decide +kernel
theorem d_Model_nearerOnes_75 : decode b_Model_nearerOnes 75 = .ok (.iinc 4 1, 3) := by decide +kernel
theorem d_Model_nearerOnes_78 : decode b_Model_nearerOnes 78 = .ok (.goto (-73), 3) := by decide +kernel
theorem d_Model_nearerOnes_81 : decode b_Model_nearerOnes 81 = .ok (.iload_n 3, 1) := by decide +kernel
theorem d_Model_nearerOnes_82 : decode b_Model_nearerOnes 82 = .ok (.ireturn, 1) := by decide +kernel
def L_Model_nearerOnes (σ : zSt) : Nat → Nat → Int32 → Int32 → Int32 → Int32 → Int32 → Option (Int32)
  | 0, _, _, _, _, _, _ => none
  | n + 1, 0, x1, x2, x3, x4, y0 => if (σ.1 4 81 6) ≤ x4 then some x3 else ((F_Model_distance x1 x4 σ).bind fun r2 => (F_Model_distance x1 x2 σ).bind fun r4 => if x4 = x1 then L_Model_nearerOnes σ n 1 x1 x2 x3 x4 (0 : Int32) else (if (r2 - r4) < 0 then L_Model_nearerOnes σ n 1 x1 x2 x3 x4 (1 : Int32) else (if (r2 - r4) = 0 then (if x2 ≤ x4 then L_Model_nearerOnes σ n 1 x1 x2 x3 x4 (0 : Int32) else L_Model_nearerOnes σ n 1 x1 x2 x3 x4 (1 : Int32)) else L_Model_nearerOnes σ n 1 x1 x2 x3 x4 (0 : Int32))))
  | n + 1, 1, x1, x2, x3, x4, y0 => if y0 = 0 then L_Model_nearerOnes σ n 0 x1 x2 (x3 + (0 : Int32)) (x4 + (1 : Int32)) 0 else L_Model_nearerOnes σ n 0 x1 x2 (x3 + (1 : Int32)) (x4 + (1 : Int32)) 0
  | _ + 1, _, _, _, _, _, _ => none
theorem e_Model_nearerOnes_0 (σ : zSt) (n : Nat) (x1 : Int32) (x2 : Int32) (x3 : Int32) (x4 : Int32) (y0 : Int32) : L_Model_nearerOnes σ (n + 1) 0 x1 x2 x3 x4 y0 = (if (σ.1 4 81 6) ≤ x4 then some x3 else ((F_Model_distance x1 x4 σ).bind fun r2 => (F_Model_distance x1 x2 σ).bind fun r4 => if x4 = x1 then L_Model_nearerOnes σ n 1 x1 x2 x3 x4 (0 : Int32) else (if (r2 - r4) < 0 then L_Model_nearerOnes σ n 1 x1 x2 x3 x4 (1 : Int32) else (if (r2 - r4) = 0 then (if x2 ≤ x4 then L_Model_nearerOnes σ n 1 x1 x2 x3 x4 (0 : Int32) else L_Model_nearerOnes σ n 1 x1 x2 x3 x4 (1 : Int32)) else L_Model_nearerOnes σ n 1 x1 x2 x3 x4 (0 : Int32))))) := rfl
theorem e_Model_nearerOnes_1 (σ : zSt) (n : Nat) (x1 : Int32) (x2 : Int32) (x3 : Int32) (x4 : Int32) (y0 : Int32) : L_Model_nearerOnes σ (n + 1) 1 x1 x2 x3 x4 y0 = (if y0 = 0 then L_Model_nearerOnes σ n 0 x1 x2 (x3 + (0 : Int32)) (x4 + (1 : Int32)) 0 else L_Model_nearerOnes σ n 0 x1 x2 (x3 + (1 : Int32)) (x4 + (1 : Int32)) 0) := rfl
set_option maxHeartbeats 4000000 in
set_option maxRecDepth 100000 in
theorem w_Model_nearerOnes {l : Launch} {G : zLA} {p : Program} {e : Env} {s : State} {m : MethodId} {args : Array Value} {below : List Frame} {meth : Method} {c : Code} (C : zCx G p s m args meth c "VillageWavesModel" b_Model_nearerOnes 7 (some .int)) (hm : zml G) {σ : zSt} {r : Int32} : ∀ n : Nat, (∀ (x1 : Int32) (x2 : Int32) (x3 : Int32) (x4 : Int32) (y0 : Int32), L_Model_nearerOnes σ n 0 x1 x2 x3 x4 y0 = some r → zWV G p l e rm_Model_nearerOnes s m args below meth c 7 0 0 (zQ G below args s rm_Model_nearerOnes (some (.int r)) σ) 5 [(0, .ref (zad G 4 80)), (1, .int x1), (2, .int x2), (3, .int x3), (4, .int x4)] [] σ) ∧ (∀ (x1 : Int32) (x2 : Int32) (x3 : Int32) (x4 : Int32) (y0 : Int32), L_Model_nearerOnes σ n 1 x1 x2 x3 x4 y0 = some r → zWV G p l e rm_Model_nearerOnes s m args below meth c 7 0 0 (zQ G below args s rm_Model_nearerOnes (some (.int r)) σ) 60 [(0, .ref (zad G 4 80)), (1, .int x1), (2, .int x2), (3, .int x3), (4, .int x4)] [.int y0] σ) := by
  intro n
  induction n with
  | zero => exact ⟨fun _ _ _ _ _ hf => (by cases hf), fun _ _ _ _ _ hf => (by cases hf)⟩
  | succ n ih =>
    refine ⟨?_, ?_⟩
    · intro x1 x2 x3 x4 y0 hf
      rw [e_Model_nearerOnes_0] at hf
      refine z_iload C d_Model_nearerOnes_5 4 rfl ?_
      refine z_aload_n C d_Model_nearerOnes_7 0 rfl rfl ?_
      refine gf_Model_7 C (zm4 hm 80 rfl) rfl rfl d_Model_nearerOnes_8 ?_
      refine z_bipush C d_Model_nearerOnes_11 zkb_6 ?_
      refine z_iald C (zm4 hm 81 rfl) rfl (inb_in (by decide)) zc_6 d_Model_nearerOnes_13 ?_
      refine z_icmp_ge (tgt := 81) C d_Model_nearerOnes_14 rfl (fun h9 => ?_) (fun h9 => ?_)
      · have hf := iff_t hf h9
        refine z_iload_n C d_Model_nearerOnes_81 3 rfl rfl ?_
        cases hf
        exact z_iret C rfl (Nat.le_of_ble_eq_true rfl) (Nat.le_of_ble_eq_true rfl) d_Model_nearerOnes_82
      · have hf := iff_f hf h9
        refine z_aload_n C d_Model_nearerOnes_17 0 rfl rfl ?_
        refine z_iload_n C d_Model_nearerOnes_18 1 rfl rfl ?_
        refine z_iload C d_Model_nearerOnes_19 4 rfl ?_
        obtain ⟨r2, h1, hf⟩ := bd_s hf
        refine z_cVi C kl_Model_231 rfl (c_Model_distance hm h1) (zm4 hm 80 rfl) rfl rfl rfl (Nat.le_of_ble_eq_true rfl) ⟨(Nat.le_of_ble_eq_true rfl), (Nat.le_of_ble_eq_true rfl)⟩ ⟨(Nat.le_of_ble_eq_true rfl), (Nat.le_of_ble_eq_true rfl)⟩ d_Model_nearerOnes_21 ?_
        refine z_aload_n C d_Model_nearerOnes_24 0 rfl rfl ?_
        refine z_iload_n C d_Model_nearerOnes_25 1 rfl rfl ?_
        refine z_iload_n C d_Model_nearerOnes_26 2 rfl rfl ?_
        obtain ⟨r4, h3, hf⟩ := bd_s hf
        refine z_cVi C kl_Model_231 rfl (c_Model_distance hm h3) (zm4 hm 80 rfl) rfl rfl rfl (Nat.le_of_ble_eq_true rfl) ⟨(Nat.le_of_ble_eq_true rfl), (Nat.le_of_ble_eq_true rfl)⟩ ⟨(Nat.le_of_ble_eq_true rfl), (Nat.le_of_ble_eq_true rfl)⟩ d_Model_nearerOnes_27 ?_
        refine z_isub C d_Model_nearerOnes_30 ?_
        refine z_istore C d_Model_nearerOnes_31 (by decide) ?_
        refine z_iload C d_Model_nearerOnes_33 5 rfl ?_
        refine z_iload_n C d_Model_nearerOnes_35 2 rfl rfl ?_
        refine z_icmp_eq (tgt := 59) C d_Model_nearerOnes_36 rfl (fun h8 => ?_) (fun h8 => ?_)
        · have hf := iff_t hf h8
          refine z_iconst C d_Model_nearerOnes_59 zki_0 ?_
          exact z_sub [1, 2, 3, 4, 5] rfl (ih.2 _ _ _ _ _ hf)
        · have hf := iff_f hf h8
          refine z_iload C d_Model_nearerOnes_39 0 rfl ?_
          refine z_if_lt (tgt := 55) C d_Model_nearerOnes_41 rfl (fun h7 => ?_) (fun h7 => ?_)
          · have hf := iff_t hf h7
            refine z_iconst C d_Model_nearerOnes_55 zki_1 ?_
            refine z_goto (tgt := 60) C d_Model_nearerOnes_56 rfl ?_
            exact z_sub [1, 2, 3, 4, 5] rfl (ih.2 _ _ _ _ _ hf)
          · have hf := iff_f hf h7
            refine z_iload C d_Model_nearerOnes_44 0 rfl ?_
            refine z_if_ne (tgt := 59) C d_Model_nearerOnes_46 rfl (fun h6 => ?_) (fun h6 => ?_)
            · have hf := iff_f hf h6
              refine z_iconst C d_Model_nearerOnes_59 zki_0 ?_
              exact z_sub [1, 2, 3, 4, 5] rfl (ih.2 _ _ _ _ _ hf)
            · have hf := iff_t hf h6
              refine z_iload C d_Model_nearerOnes_49 5 rfl ?_
              refine z_iload_n C d_Model_nearerOnes_51 3 rfl rfl ?_
              refine z_icmp_ge (tgt := 59) C d_Model_nearerOnes_52 rfl (fun h5 => ?_) (fun h5 => ?_)
              · have hf := iff_t hf h5
                refine z_iconst C d_Model_nearerOnes_59 zki_0 ?_
                exact z_sub [1, 2, 3, 4, 5] rfl (ih.2 _ _ _ _ _ hf)
              · have hf := iff_f hf h5
                refine z_iconst C d_Model_nearerOnes_55 zki_1 ?_
                refine z_goto (tgt := 60) C d_Model_nearerOnes_56 rfl ?_
                exact z_sub [1, 2, 3, 4, 5] rfl (ih.2 _ _ _ _ _ hf)
    · intro x1 x2 x3 x4 y0 hf
      rw [e_Model_nearerOnes_1] at hf
      refine z_istore C d_Model_nearerOnes_60 (by decide) ?_
      refine z_iload_n C d_Model_nearerOnes_62 4 rfl rfl ?_
      refine z_iload C d_Model_nearerOnes_63 0 rfl ?_
      refine z_if_eq (tgt := 72) C d_Model_nearerOnes_65 rfl (fun h10 => ?_) (fun h10 => ?_)
      · have hf := iff_t hf h10
        refine z_iconst C d_Model_nearerOnes_72 zki_0 ?_
        refine z_iadd C d_Model_nearerOnes_73 ?_
        refine z_istore_n C d_Model_nearerOnes_74 rfl (by decide) ?_
        refine z_iinc C d_Model_nearerOnes_75 5 rfl zki_1 (by decide) ?_
        refine z_goto (tgt := 5) C d_Model_nearerOnes_78 rfl ?_
        exact z_sub [3, 4, 5, 1, 0] rfl (ih.1 _ _ _ _ _ hf)
      · have hf := iff_f hf h10
        refine z_iconst C d_Model_nearerOnes_68 zki_1 ?_
        refine z_goto (tgt := 73) C d_Model_nearerOnes_69 rfl ?_
        refine z_iadd C d_Model_nearerOnes_73 ?_
        refine z_istore_n C d_Model_nearerOnes_74 rfl (by decide) ?_
        refine z_iinc C d_Model_nearerOnes_75 5 rfl zki_1 (by decide) ?_
        refine z_goto (tgt := 5) C d_Model_nearerOnes_78 rfl ?_
        exact z_sub [3, 4, 5, 1, 0] rfl (ih.1 _ _ _ _ _ hf)
def F_Model_nearerOnes (a0 : Int32) (a1 : Int32) (σ : zSt) : Option (Int32) :=
  L_Model_nearerOnes σ zK 0 a0 a1 (0 : Int32) (0 : Int32) 0
set_option maxHeartbeats 4000000 in
set_option maxRecDepth 100000 in
theorem c_Model_nearerOnes {l : Launch} {G : zLA} (hm : zml G) {a0 : Int32} {a1 : Int32} {σ : zSt} {r : Int32} (hf : F_Model_nearerOnes a0 a1 σ = some r) : zM l G y_Model_nearerOnes (zws y_Model_nearerOnes b_Model_nearerOnes 7 (some .int)) rm_Model_nearerOnes [.ref (zad G 4 80), .int a0, .int a1] σ (some (.int r)) σ := by
  refine z_ofM (own := "VillageWavesModel") (lv := [(0, .ref (zad G 4 80)), (1, .int a0), (2, .int a1)]) (by decide +kernel) rfl rfl (Nat.le_of_ble_eq_true rfl) (fun p e s m args below meth c C => ?_)
  rw [F_Model_nearerOnes] at hf
  refine z_iconst C d_Model_nearerOnes_0 zki_0 ?_
  refine z_istore_n C d_Model_nearerOnes_1 rfl (by decide) ?_
  refine z_iconst C d_Model_nearerOnes_2 zki_0 ?_
  refine z_istore C d_Model_nearerOnes_3 (by decide) ?_
  exact z_sub [2, 3, 4, 1, 0] rfl ((w_Model_nearerOnes C hm zK).1 _ _ _ _ _ hf)
abbrev rm_Model_near : Room := { frames := 3, cells := 0, slots := 0, locals := 72 }
theorem d_Model_near_0 : decode b_Model_near 0 = .ok (.aload_n 0, 1) := by decide +kernel
theorem d_Model_near_1 : decode b_Model_near 1 = .ok (.iconst 0, 1) := by decide +kernel
theorem d_Model_near_2 : decode b_Model_near 2 = .ok (.putfield 48, 3) := by decide +kernel
theorem d_Model_near_5 : decode b_Model_near 5 = .ok (.aload_n 0, 1) := by decide +kernel
theorem d_Model_near_6 : decode b_Model_near 6 = .ok (.iload_n 1, 1) := by decide +kernel
theorem d_Model_near_7 : decode b_Model_near 7 = .ok (.invokevirtual 188, 3) := by decide +kernel
theorem d_Model_near_10 : decode b_Model_near 10 = .ok (.ifCond .eq 7, 3) := by decide +kernel
theorem d_Model_near_13 : decode b_Model_near 13 = .ok (.iload_n 2, 1) := by decide +kernel
theorem d_Model_near_14 : decode b_Model_near 14 = .ok (.ifCond .ge 9, 3) := by decide +kernel
theorem d_Model_near_17 : decode b_Model_near 17 = .ok (.aload_n 0, 1) := by decide +kernel
theorem d_Model_near_18 : decode b_Model_near 18 = .ok (.iconst 1, 1) := by decide +kernel
theorem d_Model_near_19 : decode b_Model_near 19 = .ok (.invokevirtual 62, 3) := by decide +kernel
theorem d_Model_near_22 : decode b_Model_near 22 = .ok (.ireturn, 1) := by decide +kernel
theorem d_Model_near_23 : decode b_Model_near 23 = .ok (.iconst 0, 1) := by decide +kernel
theorem d_Model_near_24 : decode b_Model_near 24 = .ok (.istore_n 3, 1) := by decide +kernel
theorem d_Model_near_25 : decode b_Model_near 25 = .ok (.iload_n 3, 1) := by decide +kernel
theorem d_Model_near_26 : decode b_Model_near 26 = .ok (.aload_n 0, 1) := by decide +kernel
theorem d_Model_near_27 : decode b_Model_near 27 = .ok (.getfield 7, 3) := by decide +kernel
theorem d_Model_near_30 : decode b_Model_near 30 = .ok (.bipush 6, 2) := by decide +kernel
theorem d_Model_near_32 : decode b_Model_near 32 = .ok (.iaload, 1) := by decide +kernel
theorem d_Model_near_33 : decode b_Model_near 33 = .ok (.if_icmp .ge 26, 3) := by decide +kernel
theorem d_Model_near_36 : decode b_Model_near 36 = .ok (.iload_n 3, 1) := by decide +kernel
theorem d_Model_near_37 : decode b_Model_near 37 = .ok (.iload_n 1, 1) := by decide +kernel
theorem d_Model_near_38 : decode b_Model_near 38 = .ok (.if_icmp .eq 15, 3) := by decide +kernel
theorem d_Model_near_41 : decode b_Model_near 41 = .ok (.aload_n 0, 1) := by decide +kernel
theorem d_Model_near_42 : decode b_Model_near 42 = .ok (.iload_n 1, 1) := by decide +kernel
theorem d_Model_near_43 : decode b_Model_near 43 = .ok (.iload_n 3, 1) := by decide +kernel
theorem d_Model_near_44 : decode b_Model_near 44 = .ok (.invokevirtual 352, 3) := by decide +kernel
theorem d_Model_near_47 : decode b_Model_near 47 = .ok (.iload_n 2, 1) := by decide +kernel
theorem d_Model_near_48 : decode b_Model_near 48 = .ok (.if_icmp .ne 5, 3) := by decide +kernel
theorem d_Model_near_51 : decode b_Model_near 51 = .ok (.iload_n 3, 1) := by decide +kernel
theorem d_Model_near_52 : decode b_Model_near 52 = .ok (.ireturn, 1) := by decide +kernel
theorem d_Model_near_53 : decode b_Model_near 53 = .ok (.iinc 3 1, 3) := by decide +kernel
theorem d_Model_near_56 : decode b_Model_near 56 = .ok (.goto (-31), 3) := by decide +kernel
theorem d_Model_near_59 : decode b_Model_near 59 = .ok (.iconst (-1), 1) := by decide +kernel
theorem d_Model_near_60 : decode b_Model_near 60 = .ok (.ireturn, 1) := by decide +kernel
def L_Model_near : Nat → Nat → Int32 → Int32 → Int32 → zSt → Option (Int32 × zSt)
  | 0, _, _, _, _, _ => none
  | n + 1, 0, x1, x2, x3, σ => if (σ.1 4 81 6) ≤ x3 then some ((-1 : Int32), σ) else (if x3 = x1 then L_Model_near n 0 x1 x2 (x3 + (1 : Int32)) σ else ((F_Model_nearerOnes x1 x3 σ).bind fun r12 => if r12 = x2 then some (x3, σ) else L_Model_near n 0 x1 x2 (x3 + (1 : Int32)) σ))
  | _ + 1, _, _, _, _, _ => none
theorem e_Model_near_0 (n : Nat) (x1 : Int32) (x2 : Int32) (x3 : Int32) (σ : zSt) : L_Model_near (n + 1) 0 x1 x2 x3 σ = (if (σ.1 4 81 6) ≤ x3 then some ((-1 : Int32), σ) else (if x3 = x1 then L_Model_near n 0 x1 x2 (x3 + (1 : Int32)) σ else ((F_Model_nearerOnes x1 x3 σ).bind fun r12 => if r12 = x2 then some (x3, σ) else L_Model_near n 0 x1 x2 (x3 + (1 : Int32)) σ))) := rfl
set_option maxHeartbeats 4000000 in
set_option maxRecDepth 100000 in
theorem w_Model_near {l : Launch} {G : zLA} {p : Program} {e : Env} {s : State} {m : MethodId} {args : Array Value} {below : List Frame} {meth : Method} {c : Code} (C : zCx G p s m args meth c "VillageWavesModel" b_Model_near 4 (some .int)) (hm : zml G) {r : Int32} {σ' : zSt} : ∀ n : Nat, (∀ (x1 : Int32) (x2 : Int32) (x3 : Int32) (σ : zSt), L_Model_near n 0 x1 x2 x3 σ = some (r, σ') → zWV G p l e rm_Model_near s m args below meth c 4 0 0 (zQ G below args s rm_Model_near (some (.int r)) σ') 25 [(0, .ref (zad G 4 80)), (1, .int x1), (2, .int x2), (3, .int x3)] [] σ) := by
  intro n
  induction n with
  | zero => exact fun _ _ _ _ hf => (by cases hf)
  | succ n ih =>
    refine ?_
    · intro x1 x2 x3 σ hf
      rw [e_Model_near_0] at hf
      refine z_iload_n C d_Model_near_25 3 rfl rfl ?_
      refine z_aload_n C d_Model_near_26 0 rfl rfl ?_
      refine gf_Model_7 C (zm4 hm 80 rfl) rfl rfl d_Model_near_27 ?_
      refine z_bipush C d_Model_near_30 zkb_6 ?_
      refine z_iald C (zm4 hm 81 rfl) rfl (inb_in (by decide)) zc_6 d_Model_near_32 ?_
      refine z_icmp_ge (tgt := 59) C d_Model_near_33 rfl (fun h15 => ?_) (fun h15 => ?_)
      · have hf := iff_t hf h15
        refine z_iconst C d_Model_near_59 zki_m1 ?_
        cases hf
        exact z_iret C rfl (Nat.le_of_ble_eq_true rfl) (Nat.le_of_ble_eq_true rfl) d_Model_near_60
      · have hf := iff_f hf h15
        refine z_iload_n C d_Model_near_36 3 rfl rfl ?_
        refine z_iload_n C d_Model_near_37 1 rfl rfl ?_
        refine z_icmp_eq (tgt := 53) C d_Model_near_38 rfl (fun h14 => ?_) (fun h14 => ?_)
        · have hf := iff_t hf h14
          refine z_iinc C d_Model_near_53 3 rfl zki_1 (by decide) ?_
          refine z_goto (tgt := 25) C d_Model_near_56 rfl ?_
          exact z_sub [1, 2, 3, 0] rfl (ih _ _ _ _ hf)
        · have hf := iff_f hf h14
          refine z_aload_n C d_Model_near_41 0 rfl rfl ?_
          refine z_iload_n C d_Model_near_42 1 rfl rfl ?_
          refine z_iload_n C d_Model_near_43 3 rfl rfl ?_
          obtain ⟨r12, h11, hf⟩ := bd_s hf
          refine z_cVi C kl_Model_352 rfl (c_Model_nearerOnes hm h11) (zm4 hm 80 rfl) rfl rfl rfl (Nat.le_of_ble_eq_true rfl) ⟨(Nat.le_of_ble_eq_true rfl), (Nat.le_of_ble_eq_true rfl)⟩ ⟨(Nat.le_of_ble_eq_true rfl), (Nat.le_of_ble_eq_true rfl)⟩ d_Model_near_44 ?_
          refine z_iload_n C d_Model_near_47 2 rfl rfl ?_
          refine z_icmp_ne (tgt := 53) C d_Model_near_48 rfl (fun h13 => ?_) (fun h13 => ?_)
          · have hf := iff_f hf h13
            refine z_iinc C d_Model_near_53 3 rfl zki_1 (by decide) ?_
            refine z_goto (tgt := 25) C d_Model_near_56 rfl ?_
            exact z_sub [1, 2, 3, 0] rfl (ih _ _ _ _ hf)
          · have hf := iff_t hf h13
            refine z_iload_n C d_Model_near_51 3 rfl rfl ?_
            cases hf
            exact z_iret C rfl (Nat.le_of_ble_eq_true rfl) (Nat.le_of_ble_eq_true rfl) d_Model_near_52
def F_Model_near (a0 : Int32) (a1 : Int32) (σ : zSt) : Option (Int32 × zSt) :=
  (F_Model_isHouse a0 (zst σ 4 80 8 (0 : Int32))).bind fun r2 => if r2 = 0 then (bd2 (F_Model_fail (1 : Int32) (zst σ 4 80 8 (0 : Int32))) fun r4 σ5 => some (r4, σ5)) else (if 0 ≤ a1 then L_Model_near zK 0 a0 a1 (0 : Int32) (zst σ 4 80 8 (0 : Int32)) else (bd2 (F_Model_fail (1 : Int32) (zst σ 4 80 8 (0 : Int32))) fun r7 σ8 => some (r7, σ8)))
set_option maxHeartbeats 4000000 in
set_option maxRecDepth 100000 in
theorem c_Model_near {l : Launch} {G : zLA} (hm : zml G) {a0 : Int32} {a1 : Int32} {σ : zSt} {r : Int32} {σ' : zSt} (hf : F_Model_near a0 a1 σ = some (r, σ')) : zM l G y_Model_near (zws y_Model_near b_Model_near 4 (some .int)) rm_Model_near [.ref (zad G 4 80), .int a0, .int a1] σ (some (.int r)) σ' := by
  refine z_ofM (own := "VillageWavesModel") (lv := [(0, .ref (zad G 4 80)), (1, .int a0), (2, .int a1)]) (by decide +kernel) rfl rfl (Nat.le_of_ble_eq_true rfl) (fun p e s m args below meth c C => ?_)
  rw [F_Model_near] at hf
  refine z_aload_n C d_Model_near_0 0 rfl rfl ?_
  refine z_iconst C d_Model_near_1 zki_0 ?_
  refine pf_Model_48 C (zm4 hm 80 rfl) rfl (Nat.le_of_ble_eq_true rfl) rfl d_Model_near_2 ?_
  refine z_aload_n C d_Model_near_5 0 rfl rfl ?_
  refine z_iload_n C d_Model_near_6 1 rfl rfl ?_
  obtain ⟨r2, h1, hf⟩ := bd_s hf
  refine z_cVi C kl_Model_188 rfl (c_Model_isHouse hm h1) (zm4 hm 80 rfl) rfl rfl rfl (Nat.le_of_ble_eq_true rfl) ⟨(Nat.le_of_ble_eq_true rfl), (Nat.le_of_ble_eq_true rfl)⟩ ⟨(Nat.le_of_ble_eq_true rfl), (Nat.le_of_ble_eq_true rfl)⟩ d_Model_near_7 ?_
  refine z_if_eq (tgt := 17) C d_Model_near_10 rfl (fun h10 => ?_) (fun h10 => ?_)
  · have hf := iff_t hf h10
    refine z_aload_n C d_Model_near_17 0 rfl rfl ?_
    refine z_iconst C d_Model_near_18 zki_1 ?_
    obtain ⟨r4, σ5, h3, hf⟩ := bd2_s hf
    refine z_cVi C kl_Model_62 rfl (c_Model_fail hm h3) (zm4 hm 80 rfl) rfl rfl rfl (Nat.le_of_ble_eq_true rfl) ⟨(Nat.le_of_ble_eq_true rfl), (Nat.le_of_ble_eq_true rfl)⟩ ⟨(Nat.le_of_ble_eq_true rfl), (Nat.le_of_ble_eq_true rfl)⟩ d_Model_near_19 ?_
    cases hf
    exact z_iret C rfl (Nat.le_of_ble_eq_true rfl) (Nat.le_of_ble_eq_true rfl) d_Model_near_22
  · have hf := iff_f hf h10
    refine z_iload_n C d_Model_near_13 2 rfl rfl ?_
    refine z_if_ge (tgt := 23) C d_Model_near_14 rfl (fun h9 => ?_) (fun h9 => ?_)
    · have hf := iff_t hf h9
      refine z_iconst C d_Model_near_23 zki_0 ?_
      refine z_istore_n C d_Model_near_24 rfl (by decide) ?_
      exact z_sub [1, 2, 3, 0] rfl ((w_Model_near C hm zK) _ _ _ _ hf)
    · have hf := iff_f hf h9
      refine z_aload_n C d_Model_near_17 0 rfl rfl ?_
      refine z_iconst C d_Model_near_18 zki_1 ?_
      obtain ⟨r7, σ8, h6, hf⟩ := bd2_s hf
      refine z_cVi C kl_Model_62 rfl (c_Model_fail hm h6) (zm4 hm 80 rfl) rfl rfl rfl (Nat.le_of_ble_eq_true rfl) ⟨(Nat.le_of_ble_eq_true rfl), (Nat.le_of_ble_eq_true rfl)⟩ ⟨(Nat.le_of_ble_eq_true rfl), (Nat.le_of_ble_eq_true rfl)⟩ d_Model_near_19 ?_
      cases hf
      exact z_iret C rfl (Nat.le_of_ble_eq_true rfl) (Nat.le_of_ble_eq_true rfl) d_Model_near_22
abbrev rm_Model_hops : Room := { frames := 4, cells := 0, slots := 0, locals := 91 }
theorem d_Model_hops_0 : decode b_Model_hops 0 = .ok (.aload_n 0, 1) := by decide +kernel
theorem d_Model_hops_1 : decode b_Model_hops 1 = .ok (.iconst 0, 1) := by decide +kernel
theorem d_Model_hops_2 : decode b_Model_hops 2 = .ok (.putfield 48, 3) := by decide +kernel
theorem d_Model_hops_5 : decode b_Model_hops 5 = .ok (.aload_n 0, 1) := by decide +kernel
theorem d_Model_hops_6 : decode b_Model_hops 6 = .ok (.iload_n 1, 1) := by decide +kernel
theorem d_Model_hops_7 : decode b_Model_hops 7 = .ok (.invokevirtual 188, 3) := by decide +kernel
theorem d_Model_hops_10 : decode b_Model_hops 10 = .ok (.ifCond .eq 11, 3) := by decide +kernel
theorem d_Model_hops_13 : decode b_Model_hops 13 = .ok (.aload_n 0, 1) := by decide +kernel
theorem d_Model_hops_14 : decode b_Model_hops 14 = .ok (.iload_n 2, 1) := by decide +kernel
theorem d_Model_hops_15 : decode b_Model_hops 15 = .ok (.invokevirtual 188, 3) := by decide +kernel
theorem d_Model_hops_18 : decode b_Model_hops 18 = .ok (.ifCond .ne 9, 3) := by decide +kernel
theorem d_Model_hops_21 : decode b_Model_hops 21 = .ok (.aload_n 0, 1) := by decide +kernel
theorem d_Model_hops_22 : decode b_Model_hops 22 = .ok (.iconst 1, 1) := by decide +kernel
theorem d_Model_hops_23 : decode b_Model_hops 23 = .ok (.invokevirtual 62, 3) := by decide +kernel
theorem d_Model_hops_26 : decode b_Model_hops 26 = .ok (.ireturn, 1) := by decide +kernel
theorem d_Model_hops_27 : decode b_Model_hops 27 = .ok (.iconst 1, 1) := by decide +kernel
theorem d_Model_hops_28 : decode b_Model_hops 28 = .ok (.iload_n 1, 1) := by decide +kernel
theorem d_Model_hops_29 : decode b_Model_hops 29 = .ok (.ishl, 1) := by decide +kernel
theorem d_Model_hops_30 : decode b_Model_hops 30 = .ok (.istore_n 3, 1) := by decide +kernel
theorem d_Model_hops_31 : decode b_Model_hops 31 = .ok (.iconst 0, 1) := by decide +kernel
theorem d_Model_hops_32 : decode b_Model_hops 32 = .ok (.istore 4, 2) := by decide +kernel
theorem d_Model_hops_34 : decode b_Model_hops 34 = .ok (.iconst 1, 1) := by decide +kernel
theorem d_Model_hops_35 : decode b_Model_hops 35 = .ok (.istore 5, 2) := by decide +kernel
theorem d_Model_hops_37 : decode b_Model_hops 37 = .ok (.iload 5, 2) := by decide +kernel
theorem d_Model_hops_39 : decode b_Model_hops 39 = .ok (.ifCond .eq 82, 3) := by decide +kernel
theorem d_Model_hops_42 : decode b_Model_hops 42 = .ok (.iload_n 3, 1) := by decide +kernel
theorem d_Model_hops_43 : decode b_Model_hops 43 = .ok (.iload_n 2, 1) := by decide +kernel
theorem d_Model_hops_44 : decode b_Model_hops 44 = .ok (.ishr, 1) := by decide +kernel
theorem d_Model_hops_45 : decode b_Model_hops 45 = .ok (.iconst 1, 1) := by decide +kernel
theorem d_Model_hops_46 : decode b_Model_hops 46 = .ok (.iand, 1) := by decide +kernel
theorem d_Model_hops_47 : decode b_Model_hops 47 = .ok (.ifCond .ne 74, 3) := by decide +kernel
theorem d_Model_hops_50 : decode b_Model_hops 50 = .ok (.iload_n 3, 1) := by decide +kernel
theorem d_Model_hops_51 : decode b_Model_hops 51 = .ok (.istore 6, 2) := by decide +kernel
theorem d_Model_hops_53 : decode b_Model_hops 53 = .ok (.iconst 0, 1) := by decide +kernel
theorem d_Model_hops_54 : decode b_Model_hops 54 = .ok (.istore 7, 2) := by decide +kernel
theorem d_Model_hops_56 : decode b_Model_hops 56 = .ok (.iload 7, 2) := by decide +kernel
theorem d_Model_hops_58 : decode b_Model_hops 58 = .ok (.aload_n 0, 1) := by decide +kernel
theorem d_Model_hops_59 : decode b_Model_hops 59 = .ok (.getfield 7, 3) := by decide +kernel
theorem d_Model_hops_62 : decode b_Model_hops 62 = .ok (.bipush 6, 2) := by decide +kernel
theorem d_Model_hops_64 : decode b_Model_hops 64 = .ok (.iaload, 1) := by decide +kernel
theorem d_Model_hops_65 : decode b_Model_hops 65 = .ok (.if_icmp .ge 34, 3) := by decide +kernel
theorem d_Model_hops_68 : decode b_Model_hops 68 = .ok (.iload 6, 2) := by decide +kernel
theorem d_Model_hops_70 : decode b_Model_hops 70 = .ok (.iload_n 3, 1) := by decide +kernel
theorem d_Model_hops_71 : decode b_Model_hops 71 = .ok (.iload 7, 2) := by decide +kernel
theorem d_Model_hops_73 : decode b_Model_hops 73 = .ok (.ishr, 1) := by decide +kernel
theorem d_Model_hops_74 : decode b_Model_hops 74 = .ok (.iconst 1, 1) := by decide +kernel
theorem d_Model_hops_75 : decode b_Model_hops 75 = .ok (.iand, 1) := by decide +kernel
theorem d_Model_hops_76 : decode b_Model_hops 76 = .ok (.iconst 1, 1) := by decide +kernel
theorem d_Model_hops_77 : decode b_Model_hops 77 = .ok (.if_icmp .ne 12, 3) := by decide +kernel
theorem d_Model_hops_80 : decode b_Model_hops 80 = .ok (.aload_n 0, 1) := by decide +kernel
theorem d_Model_hops_81 : decode b_Model_hops 81 = .ok (.iload 7, 2) := by decide +kernel
theorem d_Model_hops_83 : decode b_Model_hops 83 = .ok (.invokevirtual 243, 3) := by decide +kernel
theorem d_Model_hops_86 : decode b_Model_hops 86 = .ok (.goto 4, 3) := by decide +kernel
theorem d_Model_hops_89 : decode b_Model_hops 89 = .ok (.iconst 0, 1) := by decide +kernel
theorem d_Model_hops_90 : decode b_Model_hops 90 = .ok (.ior, 1) := by decide +kernel
theorem d_Model_hops_91 : decode b_Model_hops 91 = .ok (.istore 6, 2) := by decide +kernel
theorem d_Model_hops_93 : decode b_Model_hops 93 = .ok (.iinc 7 1, 3) := by decide +kernel
theorem d_Model_hops_96 : decode b_Model_hops 96 = .ok (.goto (-40), 3) := by decide +kernel
theorem d_Model_hops_99 : decode b_Model_hops 99 = .ok (.iload 6, 2) := by decide +kernel
theorem d_Model_hops_101 : decode b_Model_hops 101 = .ok (.iload_n 3, 1) := by decide +kernel
theorem d_Model_hops_102 : decode b_Model_hops 102 = .ok (.if_icmp .eq 7, 3) := by decide +kernel
theorem d_Model_hops_105 : decode b_Model_hops 105 = .ok (.iconst 1, 1) := by decide +kernel
theorem d_Model_hops_106 : decode b_Model_hops 106 = .ok (.goto 4, 3) := by decide +kernel
theorem d_Model_hops_109 : decode b_Model_hops 109 = .ok (.iconst 0, 1) := by decide +kernel
theorem d_Model_hops_110 : decode b_Model_hops 110 = .ok (.istore 5, 2) := by decide +kernel
theorem d_Model_hops_112 : decode b_Model_hops 112 = .ok (.iload 6, 2) := by decide +kernel
theorem d_Model_hops_114 : decode b_Model_hops 114 = .ok (.istore_n 3, 1) := by decide +kernel
theorem d_Model_hops_115 : decode b_Model_hops 115 = .ok (.iinc 4 1, 3) := by decide +kernel
theorem d_Model_hops_118 : decode b_Model_hops 118 = .ok (.goto (-81), 3) := by decide +kernel
theorem d_Model_hops_121 : decode b_Model_hops 121 = .ok (.iload_n 3, 1) := by decide +kernel
theorem d_Model_hops_122 : decode b_Model_hops 122 = .ok (.iload_n 2, 1) := by decide +kernel
theorem d_Model_hops_123 : decode b_Model_hops 123 = .ok (.ishr, 1) := by decide +kernel
theorem d_Model_hops_124 : decode b_Model_hops 124 = .ok (.iconst 1, 1) := by decide +kernel
theorem d_Model_hops_125 : decode b_Model_hops 125 = .ok (.iand, 1) := by decide +kernel
theorem d_Model_hops_126 : decode b_Model_hops 126 = .ok (.iconst 1, 1) := by decide +kernel
theorem d_Model_hops_127 : decode b_Model_hops 127 = .ok (.if_icmp .ne 8, 3) := by decide +kernel
theorem d_Model_hops_130 : decode b_Model_hops 130 = .ok (.iload 4, 2) := by decide +kernel
theorem d_Model_hops_132 : decode b_Model_hops 132 = .ok (.goto 4, 3) := by decide +kernel
theorem d_Model_hops_135 : decode b_Model_hops 135 = .ok (.iconst (-1), 1) := by decide +kernel
theorem d_Model_hops_136 : decode b_Model_hops 136 = .ok (.ireturn, 1) := by decide +kernel
def L_Model_hops : Nat → Nat → Int32 → Int32 → Int32 → Int32 → Int32 → Int32 → zSt → Option (Int32 × zSt)
  | 0, _, _, _, _, _, _, _, _ => none
  | n + 1, 0, x2, x3, x4, x5, x6, x7, σ => if x5 = 0 then (if ((x3 >>> (x2 &&& 31)) &&& (1 : Int32)) = (1 : Int32) then some (x4, σ) else some ((-1 : Int32), σ)) else (if ((x3 >>> (x2 &&& 31)) &&& (1 : Int32)) = 0 then L_Model_hops n 1 x2 x3 x4 0 x3 (0 : Int32) σ else (if ((x3 >>> (x2 &&& 31)) &&& (1 : Int32)) = (1 : Int32) then some (x4, σ) else some ((-1 : Int32), σ)))
  | n + 1, 1, x2, x3, x4, x5, x6, x7, σ => if (σ.1 4 81 6) ≤ x7 then (if x6 = x3 then L_Model_hops n 0 x2 x6 (x4 + (1 : Int32)) (0 : Int32) 0 0 σ else L_Model_hops n 0 x2 x6 (x4 + (1 : Int32)) (1 : Int32) 0 0 σ) else (if ((x3 >>> (x7 &&& 31)) &&& (1 : Int32)) = (1 : Int32) then ((F_Model_housesInRange x7 σ).bind fun r19 => L_Model_hops n 1 x2 x3 x4 0 (x6 ||| r19) (x7 + (1 : Int32)) σ) else L_Model_hops n 1 x2 x3 x4 0 (x6 ||| (0 : Int32)) (x7 + (1 : Int32)) σ)
  | _ + 1, _, _, _, _, _, _, _, _ => none
theorem e_Model_hops_0 (n : Nat) (x2 : Int32) (x3 : Int32) (x4 : Int32) (x5 : Int32) (x6 : Int32) (x7 : Int32) (σ : zSt) : L_Model_hops (n + 1) 0 x2 x3 x4 x5 x6 x7 σ = (if x5 = 0 then (if ((x3 >>> (x2 &&& 31)) &&& (1 : Int32)) = (1 : Int32) then some (x4, σ) else some ((-1 : Int32), σ)) else (if ((x3 >>> (x2 &&& 31)) &&& (1 : Int32)) = 0 then L_Model_hops n 1 x2 x3 x4 0 x3 (0 : Int32) σ else (if ((x3 >>> (x2 &&& 31)) &&& (1 : Int32)) = (1 : Int32) then some (x4, σ) else some ((-1 : Int32), σ)))) := rfl
theorem e_Model_hops_1 (n : Nat) (x2 : Int32) (x3 : Int32) (x4 : Int32) (x5 : Int32) (x6 : Int32) (x7 : Int32) (σ : zSt) : L_Model_hops (n + 1) 1 x2 x3 x4 x5 x6 x7 σ = (if (σ.1 4 81 6) ≤ x7 then (if x6 = x3 then L_Model_hops n 0 x2 x6 (x4 + (1 : Int32)) (0 : Int32) 0 0 σ else L_Model_hops n 0 x2 x6 (x4 + (1 : Int32)) (1 : Int32) 0 0 σ) else (if ((x3 >>> (x7 &&& 31)) &&& (1 : Int32)) = (1 : Int32) then ((F_Model_housesInRange x7 σ).bind fun r19 => L_Model_hops n 1 x2 x3 x4 0 (x6 ||| r19) (x7 + (1 : Int32)) σ) else L_Model_hops n 1 x2 x3 x4 0 (x6 ||| (0 : Int32)) (x7 + (1 : Int32)) σ)) := rfl
set_option maxHeartbeats 4000000 in
set_option maxRecDepth 100000 in
theorem w_Model_hops {l : Launch} {G : zLA} {p : Program} {e : Env} {s : State} {m : MethodId} {args : Array Value} {below : List Frame} {meth : Method} {c : Code} (C : zCx G p s m args meth c "VillageWavesModel" b_Model_hops 8 (some .int)) (hm : zml G) {r : Int32} {σ' : zSt} : ∀ n : Nat, (∀ (x2 : Int32) (x3 : Int32) (x4 : Int32) (x5 : Int32) (x6 : Int32) (x7 : Int32) (σ : zSt), L_Model_hops n 0 x2 x3 x4 x5 x6 x7 σ = some (r, σ') → zWV G p l e rm_Model_hops s m args below meth c 8 0 0 (zQ G below args s rm_Model_hops (some (.int r)) σ') 37 [(0, .ref (zad G 4 80)), (2, .int x2), (3, .int x3), (4, .int x4), (5, .int x5)] [] σ) ∧ (∀ (x2 : Int32) (x3 : Int32) (x4 : Int32) (x5 : Int32) (x6 : Int32) (x7 : Int32) (σ : zSt), L_Model_hops n 1 x2 x3 x4 x5 x6 x7 σ = some (r, σ') → zWV G p l e rm_Model_hops s m args below meth c 8 0 0 (zQ G below args s rm_Model_hops (some (.int r)) σ') 56 [(0, .ref (zad G 4 80)), (2, .int x2), (3, .int x3), (4, .int x4), (6, .int x6), (7, .int x7)] [] σ) := by
  intro n
  induction n with
  | zero => exact ⟨fun _ _ _ _ _ _ _ hf => (by cases hf), fun _ _ _ _ _ _ _ hf => (by cases hf)⟩
  | succ n ih =>
    refine ⟨?_, ?_⟩
    · intro x2 x3 x4 x5 x6 x7 σ hf
      rw [e_Model_hops_0] at hf
      refine z_iload C d_Model_hops_37 4 rfl ?_
      refine z_if_eq (tgt := 121) C d_Model_hops_39 rfl (fun h16 => ?_) (fun h16 => ?_)
      · have hf := iff_t hf h16
        refine z_iload_n C d_Model_hops_121 2 rfl rfl ?_
        refine z_iload_n C d_Model_hops_122 1 rfl rfl ?_
        refine z_ishr C d_Model_hops_123 ?_
        refine z_iconst C d_Model_hops_124 zki_1 ?_
        refine z_iand C d_Model_hops_125 ?_
        refine z_iconst C d_Model_hops_126 zki_1 ?_
        refine z_icmp_ne (tgt := 135) C d_Model_hops_127 rfl (fun h13 => ?_) (fun h13 => ?_)
        · have hf := iff_f hf h13
          refine z_iconst C d_Model_hops_135 zki_m1 ?_
          cases hf
          exact z_iret C rfl (Nat.le_of_ble_eq_true rfl) (Nat.le_of_ble_eq_true rfl) d_Model_hops_136
        · have hf := iff_t hf h13
          refine z_iload C d_Model_hops_130 3 rfl ?_
          refine z_goto (tgt := 136) C d_Model_hops_132 rfl ?_
          cases hf
          exact z_iret C rfl (Nat.le_of_ble_eq_true rfl) (Nat.le_of_ble_eq_true rfl) d_Model_hops_136
      · have hf := iff_f hf h16
        refine z_iload_n C d_Model_hops_42 2 rfl rfl ?_
        refine z_iload_n C d_Model_hops_43 1 rfl rfl ?_
        refine z_ishr C d_Model_hops_44 ?_
        refine z_iconst C d_Model_hops_45 zki_1 ?_
        refine z_iand C d_Model_hops_46 ?_
        refine z_if_ne (tgt := 121) C d_Model_hops_47 rfl (fun h15 => ?_) (fun h15 => ?_)
        · have hf := iff_f hf h15
          refine z_iload_n C d_Model_hops_121 2 rfl rfl ?_
          refine z_iload_n C d_Model_hops_122 1 rfl rfl ?_
          refine z_ishr C d_Model_hops_123 ?_
          refine z_iconst C d_Model_hops_124 zki_1 ?_
          refine z_iand C d_Model_hops_125 ?_
          refine z_iconst C d_Model_hops_126 zki_1 ?_
          refine z_icmp_ne (tgt := 135) C d_Model_hops_127 rfl (fun h14 => ?_) (fun h14 => ?_)
          · have hf := iff_f hf h14
            refine z_iconst C d_Model_hops_135 zki_m1 ?_
            cases hf
            exact z_iret C rfl (Nat.le_of_ble_eq_true rfl) (Nat.le_of_ble_eq_true rfl) d_Model_hops_136
          · have hf := iff_t hf h14
            refine z_iload C d_Model_hops_130 3 rfl ?_
            refine z_goto (tgt := 136) C d_Model_hops_132 rfl ?_
            cases hf
            exact z_iret C rfl (Nat.le_of_ble_eq_true rfl) (Nat.le_of_ble_eq_true rfl) d_Model_hops_136
        · have hf := iff_t hf h15
          refine z_iload_n C d_Model_hops_50 2 rfl rfl ?_
          refine z_istore C d_Model_hops_51 (by decide) ?_
          refine z_iconst C d_Model_hops_53 zki_0 ?_
          refine z_istore C d_Model_hops_54 (by decide) ?_
          exact z_sub [2, 3, 4, 5, 1, 0] rfl (ih.2 _ _ _ _ _ _ _ hf)
    · intro x2 x3 x4 x5 x6 x7 σ hf
      rw [e_Model_hops_1] at hf
      refine z_iload C d_Model_hops_56 5 rfl ?_
      refine z_aload_n C d_Model_hops_58 0 rfl rfl ?_
      refine gf_Model_7 C (zm4 hm 80 rfl) rfl rfl d_Model_hops_59 ?_
      refine z_bipush C d_Model_hops_62 zkb_6 ?_
      refine z_iald C (zm4 hm 81 rfl) rfl (inb_in (by decide)) zc_6 d_Model_hops_64 ?_
      refine z_icmp_ge (tgt := 99) C d_Model_hops_65 rfl (fun h21 => ?_) (fun h21 => ?_)
      · have hf := iff_t hf h21
        refine z_iload C d_Model_hops_99 4 rfl ?_
        refine z_iload_n C d_Model_hops_101 2 rfl rfl ?_
        refine z_icmp_eq (tgt := 109) C d_Model_hops_102 rfl (fun h17 => ?_) (fun h17 => ?_)
        · have hf := iff_t hf h17
          refine z_iconst C d_Model_hops_109 zki_0 ?_
          refine z_istore C d_Model_hops_110 (by decide) ?_
          refine z_iload C d_Model_hops_112 5 rfl ?_
          refine z_istore_n C d_Model_hops_114 rfl (by decide) ?_
          refine z_iinc C d_Model_hops_115 4 rfl zki_1 (by decide) ?_
          refine z_goto (tgt := 37) C d_Model_hops_118 rfl ?_
          exact z_sub [3, 4, 1, 0, 2] rfl (ih.1 _ _ _ _ _ _ _ hf)
        · have hf := iff_f hf h17
          refine z_iconst C d_Model_hops_105 zki_1 ?_
          refine z_goto (tgt := 110) C d_Model_hops_106 rfl ?_
          refine z_istore C d_Model_hops_110 (by decide) ?_
          refine z_iload C d_Model_hops_112 5 rfl ?_
          refine z_istore_n C d_Model_hops_114 rfl (by decide) ?_
          refine z_iinc C d_Model_hops_115 4 rfl zki_1 (by decide) ?_
          refine z_goto (tgt := 37) C d_Model_hops_118 rfl ?_
          exact z_sub [3, 4, 1, 0, 2] rfl (ih.1 _ _ _ _ _ _ _ hf)
      · have hf := iff_f hf h21
        refine z_iload C d_Model_hops_68 4 rfl ?_
        refine z_iload_n C d_Model_hops_70 2 rfl rfl ?_
        refine z_iload C d_Model_hops_71 5 rfl ?_
        refine z_ishr C d_Model_hops_73 ?_
        refine z_iconst C d_Model_hops_74 zki_1 ?_
        refine z_iand C d_Model_hops_75 ?_
        refine z_iconst C d_Model_hops_76 zki_1 ?_
        refine z_icmp_ne (tgt := 89) C d_Model_hops_77 rfl (fun h20 => ?_) (fun h20 => ?_)
        · have hf := iff_f hf h20
          refine z_iconst C d_Model_hops_89 zki_0 ?_
          refine z_ior C d_Model_hops_90 ?_
          refine z_istore C d_Model_hops_91 (by decide) ?_
          refine z_iinc C d_Model_hops_93 5 rfl zki_1 (by decide) ?_
          refine z_goto (tgt := 56) C d_Model_hops_96 rfl ?_
          exact z_sub [2, 3, 4, 5, 1, 0] rfl (ih.2 _ _ _ _ _ _ _ hf)
        · have hf := iff_t hf h20
          refine z_aload_n C d_Model_hops_80 0 rfl rfl ?_
          refine z_iload C d_Model_hops_81 5 rfl ?_
          obtain ⟨r19, h18, hf⟩ := bd_s hf
          refine z_cVi C kl_Model_243 rfl (c_Model_housesInRange hm h18) (zm4 hm 80 rfl) rfl rfl rfl (Nat.le_of_ble_eq_true rfl) ⟨(Nat.le_of_ble_eq_true rfl), (Nat.le_of_ble_eq_true rfl)⟩ ⟨(Nat.le_of_ble_eq_true rfl), (Nat.le_of_ble_eq_true rfl)⟩ d_Model_hops_83 ?_
          refine z_goto (tgt := 90) C d_Model_hops_86 rfl ?_
          refine z_ior C d_Model_hops_90 ?_
          refine z_istore C d_Model_hops_91 (by decide) ?_
          refine z_iinc C d_Model_hops_93 5 rfl zki_1 (by decide) ?_
          refine z_goto (tgt := 56) C d_Model_hops_96 rfl ?_
          exact z_sub [2, 3, 4, 5, 1, 0] rfl (ih.2 _ _ _ _ _ _ _ hf)
def F_Model_hops (a0 : Int32) (a1 : Int32) (σ : zSt) : Option (Int32 × zSt) :=
  (F_Model_isHouse a0 (zst σ 4 80 8 (0 : Int32))).bind fun r2 => if r2 = 0 then (bd2 (F_Model_fail (1 : Int32) (zst σ 4 80 8 (0 : Int32))) fun r4 σ5 => some (r4, σ5)) else ((F_Model_isHouse a1 (zst σ 4 80 8 (0 : Int32))).bind fun r7 => if r7 = 0 then (bd2 (F_Model_fail (1 : Int32) (zst σ 4 80 8 (0 : Int32))) fun r9 σ10 => some (r9, σ10)) else L_Model_hops zK 0 a1 ((1 : Int32) <<< (a0 &&& 31)) (0 : Int32) (1 : Int32) 0 0 (zst σ 4 80 8 (0 : Int32)))
set_option maxHeartbeats 4000000 in
set_option maxRecDepth 100000 in
theorem c_Model_hops {l : Launch} {G : zLA} (hm : zml G) {a0 : Int32} {a1 : Int32} {σ : zSt} {r : Int32} {σ' : zSt} (hf : F_Model_hops a0 a1 σ = some (r, σ')) : zM l G y_Model_hops (zws y_Model_hops b_Model_hops 8 (some .int)) rm_Model_hops [.ref (zad G 4 80), .int a0, .int a1] σ (some (.int r)) σ' := by
  refine z_ofM (own := "VillageWavesModel") (lv := [(0, .ref (zad G 4 80)), (1, .int a0), (2, .int a1)]) (by decide +kernel) rfl rfl (Nat.le_of_ble_eq_true rfl) (fun p e s m args below meth c C => ?_)
  rw [F_Model_hops] at hf
  refine z_aload_n C d_Model_hops_0 0 rfl rfl ?_
  refine z_iconst C d_Model_hops_1 zki_0 ?_
  refine pf_Model_48 C (zm4 hm 80 rfl) rfl (Nat.le_of_ble_eq_true rfl) rfl d_Model_hops_2 ?_
  refine z_aload_n C d_Model_hops_5 0 rfl rfl ?_
  refine z_iload_n C d_Model_hops_6 1 rfl rfl ?_
  obtain ⟨r2, h1, hf⟩ := bd_s hf
  refine z_cVi C kl_Model_188 rfl (c_Model_isHouse hm h1) (zm4 hm 80 rfl) rfl rfl rfl (Nat.le_of_ble_eq_true rfl) ⟨(Nat.le_of_ble_eq_true rfl), (Nat.le_of_ble_eq_true rfl)⟩ ⟨(Nat.le_of_ble_eq_true rfl), (Nat.le_of_ble_eq_true rfl)⟩ d_Model_hops_7 ?_
  refine z_if_eq (tgt := 21) C d_Model_hops_10 rfl (fun h12 => ?_) (fun h12 => ?_)
  · have hf := iff_t hf h12
    refine z_aload_n C d_Model_hops_21 0 rfl rfl ?_
    refine z_iconst C d_Model_hops_22 zki_1 ?_
    obtain ⟨r4, σ5, h3, hf⟩ := bd2_s hf
    refine z_cVi C kl_Model_62 rfl (c_Model_fail hm h3) (zm4 hm 80 rfl) rfl rfl rfl (Nat.le_of_ble_eq_true rfl) ⟨(Nat.le_of_ble_eq_true rfl), (Nat.le_of_ble_eq_true rfl)⟩ ⟨(Nat.le_of_ble_eq_true rfl), (Nat.le_of_ble_eq_true rfl)⟩ d_Model_hops_23 ?_
    cases hf
    exact z_iret C rfl (Nat.le_of_ble_eq_true rfl) (Nat.le_of_ble_eq_true rfl) d_Model_hops_26
  · have hf := iff_f hf h12
    refine z_aload_n C d_Model_hops_13 0 rfl rfl ?_
    refine z_iload_n C d_Model_hops_14 2 rfl rfl ?_
    obtain ⟨r7, h6, hf⟩ := bd_s hf
    refine z_cVi C kl_Model_188 rfl (c_Model_isHouse hm h6) (zm4 hm 80 rfl) rfl rfl rfl (Nat.le_of_ble_eq_true rfl) ⟨(Nat.le_of_ble_eq_true rfl), (Nat.le_of_ble_eq_true rfl)⟩ ⟨(Nat.le_of_ble_eq_true rfl), (Nat.le_of_ble_eq_true rfl)⟩ d_Model_hops_15 ?_
    refine z_if_ne (tgt := 27) C d_Model_hops_18 rfl (fun h11 => ?_) (fun h11 => ?_)
    · have hf := iff_f hf h11
      refine z_iconst C d_Model_hops_27 zki_1 ?_
      refine z_iload_n C d_Model_hops_28 1 rfl rfl ?_
      refine z_ishl C d_Model_hops_29 ?_
      refine z_istore_n C d_Model_hops_30 rfl (by decide) ?_
      refine z_iconst C d_Model_hops_31 zki_0 ?_
      refine z_istore C d_Model_hops_32 (by decide) ?_
      refine z_iconst C d_Model_hops_34 zki_1 ?_
      refine z_istore C d_Model_hops_35 (by decide) ?_
      exact z_sub [3, 5, 2, 1, 0] rfl ((w_Model_hops C hm zK).1 _ _ _ _ _ _ _ hf)
    · have hf := iff_t hf h11
      refine z_aload_n C d_Model_hops_21 0 rfl rfl ?_
      refine z_iconst C d_Model_hops_22 zki_1 ?_
      obtain ⟨r9, σ10, h8, hf⟩ := bd2_s hf
      refine z_cVi C kl_Model_62 rfl (c_Model_fail hm h8) (zm4 hm 80 rfl) rfl rfl rfl (Nat.le_of_ble_eq_true rfl) ⟨(Nat.le_of_ble_eq_true rfl), (Nat.le_of_ble_eq_true rfl)⟩ ⟨(Nat.le_of_ble_eq_true rfl), (Nat.le_of_ble_eq_true rfl)⟩ d_Model_hops_23 ?_
      cases hf
      exact z_iret C rfl (Nat.le_of_ble_eq_true rfl) (Nat.le_of_ble_eq_true rfl) d_Model_hops_26
abbrev rm_Model_overlap : Room := { frames := 2, cells := 0, slots := 0, locals := 46 }
theorem d_Model_overlap_0 : decode b_Model_overlap 0 = .ok (.aload_n 0, 1) := by decide +kernel
theorem d_Model_overlap_1 : decode b_Model_overlap 1 = .ok (.iconst 0, 1) := by decide +kernel
theorem d_Model_overlap_2 : decode b_Model_overlap 2 = .ok (.putfield 48, 3) := by decide +kernel
theorem d_Model_overlap_5 : decode b_Model_overlap 5 = .ok (.aload_n 0, 1) := by decide +kernel
theorem d_Model_overlap_6 : decode b_Model_overlap 6 = .ok (.iload_n 1, 1) := by decide +kernel
theorem d_Model_overlap_7 : decode b_Model_overlap 7 = .ok (.invokevirtual 188, 3) := by decide +kernel
theorem d_Model_overlap_10 : decode b_Model_overlap 10 = .ok (.ifCond .eq 11, 3) := by decide +kernel
theorem d_Model_overlap_13 : decode b_Model_overlap 13 = .ok (.aload_n 0, 1) := by decide +kernel
theorem d_Model_overlap_14 : decode b_Model_overlap 14 = .ok (.iload_n 2, 1) := by decide +kernel
theorem d_Model_overlap_15 : decode b_Model_overlap 15 = .ok (.invokevirtual 188, 3) := by decide +kernel
theorem d_Model_overlap_18 : decode b_Model_overlap 18 = .ok (.ifCond .ne 9, 3) := by decide +kernel
theorem d_Model_overlap_21 : decode b_Model_overlap 21 = .ok (.aload_n 0, 1) := by decide +kernel
theorem d_Model_overlap_22 : decode b_Model_overlap 22 = .ok (.iconst 1, 1) := by decide +kernel
theorem d_Model_overlap_23 : decode b_Model_overlap 23 = .ok (.invokevirtual 62, 3) := by decide +kernel
theorem d_Model_overlap_26 : decode b_Model_overlap 26 = .ok (.ireturn, 1) := by decide +kernel
theorem d_Model_overlap_27 : decode b_Model_overlap 27 = .ok (.iconst 0, 1) := by decide +kernel
theorem d_Model_overlap_28 : decode b_Model_overlap 28 = .ok (.istore_n 3, 1) := by decide +kernel
theorem d_Model_overlap_29 : decode b_Model_overlap 29 = .ok (.iconst 0, 1) := by decide +kernel
theorem d_Model_overlap_30 : decode b_Model_overlap 30 = .ok (.istore 4, 2) := by decide +kernel
theorem d_Model_overlap_32 : decode b_Model_overlap 32 = .ok (.iload 4, 2) := by decide +kernel
theorem d_Model_overlap_34 : decode b_Model_overlap 34 = .ok (.aload_n 0, 1) := by decide +kernel
theorem d_Model_overlap_35 : decode b_Model_overlap 35 = .ok (.getfield 7, 3) := by decide +kernel
theorem d_Model_overlap_38 : decode b_Model_overlap 38 = .ok (.iconst 5, 1) := by decide +kernel
theorem d_Model_overlap_39 : decode b_Model_overlap 39 = .ok (.iaload, 1) := by decide +kernel
theorem d_Model_overlap_40 : decode b_Model_overlap 40 = .ok (.if_icmp .ge 37, 3) := by decide +kernel
theorem d_Model_overlap_43 : decode b_Model_overlap 43 = .ok (.iload_n 3, 1) := by decide +kernel
theorem d_Model_overlap_44 : decode b_Model_overlap 44 = .ok (.aload_n 0, 1) := by decide +kernel
theorem d_Model_overlap_45 : decode b_Model_overlap 45 = .ok (.iload_n 1, 1) := by decide +kernel
theorem d_Model_overlap_46 : decode b_Model_overlap 46 = .ok (.iload 4, 2) := by decide +kernel
theorem d_Model_overlap_48 : decode b_Model_overlap 48 = .ok (.invokevirtual 202, 3) := by decide +kernel
theorem d_Model_overlap_51 : decode b_Model_overlap 51 = .ok (.ifCond .ne 13, 3) := by decide +kernel
theorem d_Model_overlap_54 : decode b_Model_overlap 54 = .ok (.aload_n 0, 1) := by decide +kernel
theorem d_Model_overlap_55 : decode b_Model_overlap 55 = .ok (.iload_n 2, 1) := by decide +kernel
theorem d_Model_overlap_56 : decode b_Model_overlap 56 = .ok (.iload 4, 2) := by decide +kernel
theorem d_Model_overlap_58 : decode b_Model_overlap 58 = .ok (.invokevirtual 202, 3) := by decide +kernel
theorem d_Model_overlap_61 : decode b_Model_overlap 61 = .ok (.ifCond .eq 7, 3) := by decide +kernel
theorem d_Model_overlap_64 : decode b_Model_overlap 64 = .ok (.iconst 0, 1) := by decide +kernel
theorem d_Model_overlap_65 : decode b_Model_overlap 65 = .ok (.goto 4, 3) := by decide +kernel
theorem d_Model_overlap_68 : decode b_Model_overlap 68 = .ok (.iconst 1, 1) := by decide +kernel
theorem d_Model_overlap_69 : decode b_Model_overlap 69 = .ok (.iadd, 1) := by decide +kernel
theorem d_Model_overlap_70 : decode b_Model_overlap 70 = .ok (.istore_n 3, 1) := by decide +kernel
theorem d_Model_overlap_71 : decode b_Model_overlap 71 = .ok (.iinc 4 1, 3) := by decide +kernel
theorem d_Model_overlap_74 : decode b_Model_overlap 74 = .ok (.goto (-42), 3) := by decide +kernel
theorem d_Model_overlap_77 : decode b_Model_overlap 77 = .ok (.iload_n 3, 1) := by decide +kernel
theorem d_Model_overlap_78 : decode b_Model_overlap 78 = .ok (.ireturn, 1) := by decide +kernel
def L_Model_overlap : Nat → Nat → Int32 → Int32 → Int32 → Int32 → zSt → Option (Int32 × zSt)
  | 0, _, _, _, _, _, _ => none
  | n + 1, 0, x1, x2, x3, x4, σ => if (σ.1 4 81 5) ≤ x4 then some (x3, σ) else ((F_Model_isQuietAt x1 x4 σ).bind fun r14 => if r14 = 0 then ((F_Model_isQuietAt x2 x4 σ).bind fun r16 => if r16 = 0 then L_Model_overlap n 0 x1 x2 (x3 + (1 : Int32)) (x4 + (1 : Int32)) σ else L_Model_overlap n 0 x1 x2 (x3 + (0 : Int32)) (x4 + (1 : Int32)) σ) else L_Model_overlap n 0 x1 x2 (x3 + (0 : Int32)) (x4 + (1 : Int32)) σ)
  | _ + 1, _, _, _, _, _, _ => none
theorem e_Model_overlap_0 (n : Nat) (x1 : Int32) (x2 : Int32) (x3 : Int32) (x4 : Int32) (σ : zSt) : L_Model_overlap (n + 1) 0 x1 x2 x3 x4 σ = (if (σ.1 4 81 5) ≤ x4 then some (x3, σ) else ((F_Model_isQuietAt x1 x4 σ).bind fun r14 => if r14 = 0 then ((F_Model_isQuietAt x2 x4 σ).bind fun r16 => if r16 = 0 then L_Model_overlap n 0 x1 x2 (x3 + (1 : Int32)) (x4 + (1 : Int32)) σ else L_Model_overlap n 0 x1 x2 (x3 + (0 : Int32)) (x4 + (1 : Int32)) σ) else L_Model_overlap n 0 x1 x2 (x3 + (0 : Int32)) (x4 + (1 : Int32)) σ)) := rfl
set_option maxHeartbeats 4000000 in
set_option maxRecDepth 100000 in
theorem w_Model_overlap {l : Launch} {G : zLA} {p : Program} {e : Env} {s : State} {m : MethodId} {args : Array Value} {below : List Frame} {meth : Method} {c : Code} (C : zCx G p s m args meth c "VillageWavesModel" b_Model_overlap 5 (some .int)) (hm : zml G) {r : Int32} {σ' : zSt} : ∀ n : Nat, (∀ (x1 : Int32) (x2 : Int32) (x3 : Int32) (x4 : Int32) (σ : zSt), L_Model_overlap n 0 x1 x2 x3 x4 σ = some (r, σ') → zWV G p l e rm_Model_overlap s m args below meth c 5 0 0 (zQ G below args s rm_Model_overlap (some (.int r)) σ') 32 [(0, .ref (zad G 4 80)), (1, .int x1), (2, .int x2), (3, .int x3), (4, .int x4)] [] σ) := by
  intro n
  induction n with
  | zero => exact fun _ _ _ _ _ hf => (by cases hf)
  | succ n ih =>
    refine ?_
    · intro x1 x2 x3 x4 σ hf
      rw [e_Model_overlap_0] at hf
      refine z_iload C d_Model_overlap_32 4 rfl ?_
      refine z_aload_n C d_Model_overlap_34 0 rfl rfl ?_
      refine gf_Model_7 C (zm4 hm 80 rfl) rfl rfl d_Model_overlap_35 ?_
      refine z_iconst C d_Model_overlap_38 zki_5 ?_
      refine z_iald C (zm4 hm 81 rfl) rfl (inb_in (by decide)) zc_5 d_Model_overlap_39 ?_
      refine z_icmp_ge (tgt := 77) C d_Model_overlap_40 rfl (fun h19 => ?_) (fun h19 => ?_)
      · have hf := iff_t hf h19
        refine z_iload_n C d_Model_overlap_77 3 rfl rfl ?_
        cases hf
        exact z_iret C rfl (Nat.le_of_ble_eq_true rfl) (Nat.le_of_ble_eq_true rfl) d_Model_overlap_78
      · have hf := iff_f hf h19
        refine z_iload_n C d_Model_overlap_43 3 rfl rfl ?_
        refine z_aload_n C d_Model_overlap_44 0 rfl rfl ?_
        refine z_iload_n C d_Model_overlap_45 1 rfl rfl ?_
        refine z_iload C d_Model_overlap_46 4 rfl ?_
        obtain ⟨r14, h13, hf⟩ := bd_s hf
        refine z_cVi C kl_Model_202 rfl (c_Model_isQuietAt hm h13) (zm4 hm 80 rfl) rfl rfl rfl (Nat.le_of_ble_eq_true rfl) ⟨(Nat.le_of_ble_eq_true rfl), (Nat.le_of_ble_eq_true rfl)⟩ ⟨(Nat.le_of_ble_eq_true rfl), (Nat.le_of_ble_eq_true rfl)⟩ d_Model_overlap_48 ?_
        refine z_if_ne (tgt := 64) C d_Model_overlap_51 rfl (fun h18 => ?_) (fun h18 => ?_)
        · have hf := iff_f hf h18
          refine z_iconst C d_Model_overlap_64 zki_0 ?_
          refine z_goto (tgt := 69) C d_Model_overlap_65 rfl ?_
          refine z_iadd C d_Model_overlap_69 ?_
          refine z_istore_n C d_Model_overlap_70 rfl (by decide) ?_
          refine z_iinc C d_Model_overlap_71 4 rfl zki_1 (by decide) ?_
          refine z_goto (tgt := 32) C d_Model_overlap_74 rfl ?_
          exact z_sub [2, 3, 4, 1, 0] rfl (ih _ _ _ _ _ hf)
        · have hf := iff_t hf h18
          refine z_aload_n C d_Model_overlap_54 0 rfl rfl ?_
          refine z_iload_n C d_Model_overlap_55 2 rfl rfl ?_
          refine z_iload C d_Model_overlap_56 4 rfl ?_
          obtain ⟨r16, h15, hf⟩ := bd_s hf
          refine z_cVi C kl_Model_202 rfl (c_Model_isQuietAt hm h15) (zm4 hm 80 rfl) rfl rfl rfl (Nat.le_of_ble_eq_true rfl) ⟨(Nat.le_of_ble_eq_true rfl), (Nat.le_of_ble_eq_true rfl)⟩ ⟨(Nat.le_of_ble_eq_true rfl), (Nat.le_of_ble_eq_true rfl)⟩ d_Model_overlap_58 ?_
          refine z_if_eq (tgt := 68) C d_Model_overlap_61 rfl (fun h17 => ?_) (fun h17 => ?_)
          · have hf := iff_t hf h17
            refine z_iconst C d_Model_overlap_68 zki_1 ?_
            refine z_iadd C d_Model_overlap_69 ?_
            refine z_istore_n C d_Model_overlap_70 rfl (by decide) ?_
            refine z_iinc C d_Model_overlap_71 4 rfl zki_1 (by decide) ?_
            refine z_goto (tgt := 32) C d_Model_overlap_74 rfl ?_
            exact z_sub [2, 3, 4, 1, 0] rfl (ih _ _ _ _ _ hf)
          · have hf := iff_f hf h17
            refine z_iconst C d_Model_overlap_64 zki_0 ?_
            refine z_goto (tgt := 69) C d_Model_overlap_65 rfl ?_
            refine z_iadd C d_Model_overlap_69 ?_
            refine z_istore_n C d_Model_overlap_70 rfl (by decide) ?_
            refine z_iinc C d_Model_overlap_71 4 rfl zki_1 (by decide) ?_
            refine z_goto (tgt := 32) C d_Model_overlap_74 rfl ?_
            exact z_sub [2, 3, 4, 1, 0] rfl (ih _ _ _ _ _ hf)
def F_Model_overlap (a0 : Int32) (a1 : Int32) (σ : zSt) : Option (Int32 × zSt) :=
  (F_Model_isHouse a0 (zst σ 4 80 8 (0 : Int32))).bind fun r2 => if r2 = 0 then (bd2 (F_Model_fail (1 : Int32) (zst σ 4 80 8 (0 : Int32))) fun r4 σ5 => some (r4, σ5)) else ((F_Model_isHouse a1 (zst σ 4 80 8 (0 : Int32))).bind fun r7 => if r7 = 0 then (bd2 (F_Model_fail (1 : Int32) (zst σ 4 80 8 (0 : Int32))) fun r9 σ10 => some (r9, σ10)) else L_Model_overlap zK 0 a0 a1 (0 : Int32) (0 : Int32) (zst σ 4 80 8 (0 : Int32)))
set_option maxHeartbeats 4000000 in
set_option maxRecDepth 100000 in
theorem c_Model_overlap {l : Launch} {G : zLA} (hm : zml G) {a0 : Int32} {a1 : Int32} {σ : zSt} {r : Int32} {σ' : zSt} (hf : F_Model_overlap a0 a1 σ = some (r, σ')) : zM l G y_Model_overlap (zws y_Model_overlap b_Model_overlap 5 (some .int)) rm_Model_overlap [.ref (zad G 4 80), .int a0, .int a1] σ (some (.int r)) σ' := by
  refine z_ofM (own := "VillageWavesModel") (lv := [(0, .ref (zad G 4 80)), (1, .int a0), (2, .int a1)]) (by decide +kernel) rfl rfl (Nat.le_of_ble_eq_true rfl) (fun p e s m args below meth c C => ?_)
  rw [F_Model_overlap] at hf
  refine z_aload_n C d_Model_overlap_0 0 rfl rfl ?_
  refine z_iconst C d_Model_overlap_1 zki_0 ?_
  refine pf_Model_48 C (zm4 hm 80 rfl) rfl (Nat.le_of_ble_eq_true rfl) rfl d_Model_overlap_2 ?_
  refine z_aload_n C d_Model_overlap_5 0 rfl rfl ?_
  refine z_iload_n C d_Model_overlap_6 1 rfl rfl ?_
  obtain ⟨r2, h1, hf⟩ := bd_s hf
  refine z_cVi C kl_Model_188 rfl (c_Model_isHouse hm h1) (zm4 hm 80 rfl) rfl rfl rfl (Nat.le_of_ble_eq_true rfl) ⟨(Nat.le_of_ble_eq_true rfl), (Nat.le_of_ble_eq_true rfl)⟩ ⟨(Nat.le_of_ble_eq_true rfl), (Nat.le_of_ble_eq_true rfl)⟩ d_Model_overlap_7 ?_
  refine z_if_eq (tgt := 21) C d_Model_overlap_10 rfl (fun h12 => ?_) (fun h12 => ?_)
  · have hf := iff_t hf h12
    refine z_aload_n C d_Model_overlap_21 0 rfl rfl ?_
    refine z_iconst C d_Model_overlap_22 zki_1 ?_
    obtain ⟨r4, σ5, h3, hf⟩ := bd2_s hf
    refine z_cVi C kl_Model_62 rfl (c_Model_fail hm h3) (zm4 hm 80 rfl) rfl rfl rfl (Nat.le_of_ble_eq_true rfl) ⟨(Nat.le_of_ble_eq_true rfl), (Nat.le_of_ble_eq_true rfl)⟩ ⟨(Nat.le_of_ble_eq_true rfl), (Nat.le_of_ble_eq_true rfl)⟩ d_Model_overlap_23 ?_
    cases hf
    exact z_iret C rfl (Nat.le_of_ble_eq_true rfl) (Nat.le_of_ble_eq_true rfl) d_Model_overlap_26
  · have hf := iff_f hf h12
    refine z_aload_n C d_Model_overlap_13 0 rfl rfl ?_
    refine z_iload_n C d_Model_overlap_14 2 rfl rfl ?_
    obtain ⟨r7, h6, hf⟩ := bd_s hf
    refine z_cVi C kl_Model_188 rfl (c_Model_isHouse hm h6) (zm4 hm 80 rfl) rfl rfl rfl (Nat.le_of_ble_eq_true rfl) ⟨(Nat.le_of_ble_eq_true rfl), (Nat.le_of_ble_eq_true rfl)⟩ ⟨(Nat.le_of_ble_eq_true rfl), (Nat.le_of_ble_eq_true rfl)⟩ d_Model_overlap_15 ?_
    refine z_if_ne (tgt := 27) C d_Model_overlap_18 rfl (fun h11 => ?_) (fun h11 => ?_)
    · have hf := iff_f hf h11
      refine z_iconst C d_Model_overlap_27 zki_0 ?_
      refine z_istore_n C d_Model_overlap_28 rfl (by decide) ?_
      refine z_iconst C d_Model_overlap_29 zki_0 ?_
      refine z_istore C d_Model_overlap_30 (by decide) ?_
      exact z_sub [2, 3, 4, 1, 0] rfl ((w_Model_overlap C hm zK) _ _ _ _ _ hf)
    · have hf := iff_t hf h11
      refine z_aload_n C d_Model_overlap_21 0 rfl rfl ?_
      refine z_iconst C d_Model_overlap_22 zki_1 ?_
      obtain ⟨r9, σ10, h8, hf⟩ := bd2_s hf
      refine z_cVi C kl_Model_62 rfl (c_Model_fail hm h8) (zm4 hm 80 rfl) rfl rfl rfl (Nat.le_of_ble_eq_true rfl) ⟨(Nat.le_of_ble_eq_true rfl), (Nat.le_of_ble_eq_true rfl)⟩ ⟨(Nat.le_of_ble_eq_true rfl), (Nat.le_of_ble_eq_true rfl)⟩ d_Model_overlap_23 ?_
      cases hf
      exact z_iret C rfl (Nat.le_of_ble_eq_true rfl) (Nat.le_of_ble_eq_true rfl) d_Model_overlap_26
abbrev rm_Model_meanBattery : Room := { frames := 1, cells := 0, slots := 0, locals := 22 }
theorem d_Model_meanBattery_0 : decode b_Model_meanBattery 0 = .ok (.aload_n 0, 1) := by decide +kernel
theorem d_Model_meanBattery_1 : decode b_Model_meanBattery 1 = .ok (.iconst 0, 1) := by decide +kernel
theorem d_Model_meanBattery_2 : decode b_Model_meanBattery 2 = .ok (.putfield 48, 3) := by decide +kernel
theorem d_Model_meanBattery_5 : decode b_Model_meanBattery 5 = .ok (.iconst 0, 1) := by decide +kernel
theorem d_Model_meanBattery_6 : decode b_Model_meanBattery 6 = .ok (.istore_n 1, 1) := by decide +kernel
theorem d_Model_meanBattery_7 : decode b_Model_meanBattery 7 = .ok (.iconst 0, 1) := by decide +kernel
theorem d_Model_meanBattery_8 : decode b_Model_meanBattery 8 = .ok (.istore_n 2, 1) := by decide +kernel
theorem d_Model_meanBattery_9 : decode b_Model_meanBattery 9 = .ok (.iload_n 2, 1) := by decide +kernel
theorem d_Model_meanBattery_10 : decode b_Model_meanBattery 10 = .ok (.aload_n 0, 1) := by decide +kernel
theorem d_Model_meanBattery_11 : decode b_Model_meanBattery 11 = .ok (.getfield 7, 3) := by decide +kernel
theorem d_Model_meanBattery_14 : decode b_Model_meanBattery 14 = .ok (.bipush 6, 2) := by decide +kernel
theorem d_Model_meanBattery_16 : decode b_Model_meanBattery 16 = .ok (.iaload, 1) := by decide +kernel
theorem d_Model_meanBattery_17 : decode b_Model_meanBattery 17 = .ok (.if_icmp .ge 18, 3) := by decide +kernel
theorem d_Model_meanBattery_20 : decode b_Model_meanBattery 20 = .ok (.iload_n 1, 1) := by decide +kernel
theorem d_Model_meanBattery_21 : decode b_Model_meanBattery 21 = .ok (.aload_n 0, 1) := by decide +kernel
theorem d_Model_meanBattery_22 : decode b_Model_meanBattery 22 = .ok (.iload_n 2, 1) := by decide +kernel
theorem d_Model_meanBattery_23 : decode b_Model_meanBattery 23 = .ok (.iconst 3, 1) := by decide +kernel
theorem d_Model_meanBattery_24 : decode b_Model_meanBattery 24 = .ok (.invokevirtual 191, 3) := by decide +kernel
theorem d_Model_meanBattery_27 : decode b_Model_meanBattery 27 = .ok (.iadd, 1) := by decide +kernel
theorem d_Model_meanBattery_28 : decode b_Model_meanBattery 28 = .ok (.istore_n 1, 1) := by decide +kernel
theorem d_Model_meanBattery_29 : decode b_Model_meanBattery 29 = .ok (.iinc 2 1, 3) := by decide +kernel
theorem d_Model_meanBattery_32 : decode b_Model_meanBattery 32 = .ok (.goto (-23), 3) := by decide +kernel
theorem d_Model_meanBattery_35 : decode b_Model_meanBattery 35 = .ok (.aload_n 0, 1) := by decide +kernel
theorem d_Model_meanBattery_36 : decode b_Model_meanBattery 36 = .ok (.getfield 7, 3) := by decide +kernel
theorem d_Model_meanBattery_39 : decode b_Model_meanBattery 39 = .ok (.bipush 6, 2) := by decide +kernel
theorem d_Model_meanBattery_41 : decode b_Model_meanBattery 41 = .ok (.iaload, 1) := by decide +kernel
theorem d_Model_meanBattery_42 : decode b_Model_meanBattery 42 = .ok (.ifCond .ne 9, 3) := by decide +kernel
theorem d_Model_meanBattery_45 : decode b_Model_meanBattery 45 = .ok (.ldc_w 355, 3) := by decide +kernel
theorem d_Model_meanBattery_48 : decode b_Model_meanBattery 48 = .ok (.goto 14, 3) := by decide +kernel
theorem d_Model_meanBattery_51 : decode b_Model_meanBattery 51 = .ok (.iload_n 1, 1) := by decide +kernel
theorem d_Model_meanBattery_52 : decode b_Model_meanBattery 52 = .ok (.i2f, 1) := by decide +kernel
theorem d_Model_meanBattery_53 : decode b_Model_meanBattery 53 = .ok (.aload_n 0, 1) := by decide +kernel
theorem d_Model_meanBattery_54 : decode b_Model_meanBattery 54 = .ok (.getfield 7, 3) := by decide +kernel
theorem d_Model_meanBattery_57 : decode b_Model_meanBattery 57 = .ok (.bipush 6, 2) := by decide +kernel
theorem d_Model_meanBattery_59 : decode b_Model_meanBattery 59 = .ok (.iaload, 1) := by decide +kernel
theorem d_Model_meanBattery_60 : decode b_Model_meanBattery 60 = .ok (.i2f, 1) := by decide +kernel
theorem d_Model_meanBattery_61 : decode b_Model_meanBattery 61 = .ok (.fdiv, 1) := by decide +kernel
theorem d_Model_meanBattery_62 : decode b_Model_meanBattery 62 = .ok (.freturn, 1) := by decide +kernel
def L_Model_meanBattery : Nat → Nat → Int32 → Int32 → zSt → Option (UInt32 × zSt)
  | 0, _, _, _, _ => none
  | n + 1, 0, x1, x2, σ => if (σ.1 4 81 6) ≤ x2 then (if (σ.1 4 81 6) = 0 then some ((3212836864 : UInt32), σ) else (if zn32 (FP.fdiv (FP.i2f x1) (FP.i2f (σ.1 4 81 6))) = true then some ((FP.fdiv (FP.i2f x1) (FP.i2f (σ.1 4 81 6))), σ) else none)) else ((F_Model_of x2 (3 : Int32) σ).bind fun r4 => L_Model_meanBattery n 0 (x1 + r4) (x2 + (1 : Int32)) σ)
  | _ + 1, _, _, _, _ => none
theorem e_Model_meanBattery_0 (n : Nat) (x1 : Int32) (x2 : Int32) (σ : zSt) : L_Model_meanBattery (n + 1) 0 x1 x2 σ = (if (σ.1 4 81 6) ≤ x2 then (if (σ.1 4 81 6) = 0 then some ((3212836864 : UInt32), σ) else (if zn32 (FP.fdiv (FP.i2f x1) (FP.i2f (σ.1 4 81 6))) = true then some ((FP.fdiv (FP.i2f x1) (FP.i2f (σ.1 4 81 6))), σ) else none)) else ((F_Model_of x2 (3 : Int32) σ).bind fun r4 => L_Model_meanBattery n 0 (x1 + r4) (x2 + (1 : Int32)) σ)) := rfl
set_option maxHeartbeats 4000000 in
set_option maxRecDepth 100000 in
theorem w_Model_meanBattery {l : Launch} {G : zLA} {p : Program} {e : Env} {s : State} {m : MethodId} {args : Array Value} {below : List Frame} {meth : Method} {c : Code} (C : zCx G p s m args meth c "VillageWavesModel" b_Model_meanBattery 3 (some .float)) (hm : zml G) {r : UInt32} {σ' : zSt} : ∀ n : Nat, (∀ (x1 : Int32) (x2 : Int32) (σ : zSt), L_Model_meanBattery n 0 x1 x2 σ = some (r, σ') → zWV G p l e rm_Model_meanBattery s m args below meth c 3 0 0 (zQ G below args s rm_Model_meanBattery (some (.float r)) σ') 9 [(0, .ref (zad G 4 80)), (1, .int x1), (2, .int x2)] [] σ) := by
  intro n
  induction n with
  | zero => exact fun _ _ _ hf => (by cases hf)
  | succ n ih =>
    refine ?_
    · intro x1 x2 σ hf
      rw [e_Model_meanBattery_0] at hf
      refine z_iload_n C d_Model_meanBattery_9 2 rfl rfl ?_
      refine z_aload_n C d_Model_meanBattery_10 0 rfl rfl ?_
      refine gf_Model_7 C (zm4 hm 80 rfl) rfl rfl d_Model_meanBattery_11 ?_
      refine z_bipush C d_Model_meanBattery_14 zkb_6 ?_
      refine z_iald C (zm4 hm 81 rfl) rfl (inb_in (by decide)) zc_6 d_Model_meanBattery_16 ?_
      refine z_icmp_ge (tgt := 35) C d_Model_meanBattery_17 rfl (fun h5 => ?_) (fun h5 => ?_)
      · have hf := iff_t hf h5
        refine z_aload_n C d_Model_meanBattery_35 0 rfl rfl ?_
        refine gf_Model_7 C (zm4 hm 80 rfl) rfl rfl d_Model_meanBattery_36 ?_
        refine z_bipush C d_Model_meanBattery_39 zkb_6 ?_
        refine z_iald C (zm4 hm 81 rfl) rfl (inb_in (by decide)) zc_6 d_Model_meanBattery_41 ?_
        refine z_if_ne (tgt := 51) C d_Model_meanBattery_42 rfl (fun h2 => ?_) (fun h2 => ?_)
        · have hf := iff_f hf h2
          refine z_iload_n C d_Model_meanBattery_51 1 rfl rfl ?_
          refine z_i2f C d_Model_meanBattery_52 ?_
          refine z_aload_n C d_Model_meanBattery_53 0 rfl rfl ?_
          refine gf_Model_7 C (zm4 hm 80 rfl) rfl rfl d_Model_meanBattery_54 ?_
          refine z_bipush C d_Model_meanBattery_57 zkb_6 ?_
          refine z_iald C (zm4 hm 81 rfl) rfl (inb_in (by decide)) zc_6 d_Model_meanBattery_59 ?_
          refine z_i2f C d_Model_meanBattery_60 ?_
          obtain ⟨h1, hf⟩ := iff_g hf
          refine z_fdiv C d_Model_meanBattery_61 (zn32_n h1) ?_
          cases hf
          exact z_fret C rfl (Nat.le_of_ble_eq_true rfl) (Nat.le_of_ble_eq_true rfl) d_Model_meanBattery_62
        · have hf := iff_t hf h2
          refine z_ldcfw C d_Model_meanBattery_45 zq1744 ?_
          refine z_goto (tgt := 62) C d_Model_meanBattery_48 rfl ?_
          cases hf
          exact z_fret C rfl (Nat.le_of_ble_eq_true rfl) (Nat.le_of_ble_eq_true rfl) d_Model_meanBattery_62
      · have hf := iff_f hf h5
        refine z_iload_n C d_Model_meanBattery_20 1 rfl rfl ?_
        refine z_aload_n C d_Model_meanBattery_21 0 rfl rfl ?_
        refine z_iload_n C d_Model_meanBattery_22 2 rfl rfl ?_
        refine z_iconst C d_Model_meanBattery_23 zki_3 ?_
        obtain ⟨r4, h3, hf⟩ := bd_s hf
        refine z_cVi C kl_Model_191 rfl (c_Model_of hm h3) (zm4 hm 80 rfl) rfl rfl rfl (Nat.le_of_ble_eq_true rfl) ⟨(Nat.le_of_ble_eq_true rfl), (Nat.le_of_ble_eq_true rfl)⟩ ⟨(Nat.le_of_ble_eq_true rfl), (Nat.le_of_ble_eq_true rfl)⟩ d_Model_meanBattery_24 ?_
        refine z_iadd C d_Model_meanBattery_27 ?_
        refine z_istore_n C d_Model_meanBattery_28 rfl (by decide) ?_
        refine z_iinc C d_Model_meanBattery_29 2 rfl zki_1 (by decide) ?_
        refine z_goto (tgt := 9) C d_Model_meanBattery_32 rfl ?_
        exact z_sub [2, 1, 0] rfl (ih _ _ _ hf)
def F_Model_meanBattery (σ : zSt) : Option (UInt32 × zSt) :=
  L_Model_meanBattery zK 0 (0 : Int32) (0 : Int32) (zst σ 4 80 8 (0 : Int32))
set_option maxHeartbeats 4000000 in
set_option maxRecDepth 100000 in
theorem c_Model_meanBattery {l : Launch} {G : zLA} (hm : zml G) {σ : zSt} {r : UInt32} {σ' : zSt} (hf : F_Model_meanBattery σ = some (r, σ')) : zM l G y_Model_meanBattery (zws y_Model_meanBattery b_Model_meanBattery 3 (some .float)) rm_Model_meanBattery [.ref (zad G 4 80)] σ (some (.float r)) σ' := by
  refine z_ofM (own := "VillageWavesModel") (lv := [(0, .ref (zad G 4 80))]) (by decide +kernel) rfl rfl (Nat.le_of_ble_eq_true rfl) (fun p e s m args below meth c C => ?_)
  rw [F_Model_meanBattery] at hf
  refine z_aload_n C d_Model_meanBattery_0 0 rfl rfl ?_
  refine z_iconst C d_Model_meanBattery_1 zki_0 ?_
  refine pf_Model_48 C (zm4 hm 80 rfl) rfl (Nat.le_of_ble_eq_true rfl) rfl d_Model_meanBattery_2 ?_
  refine z_iconst C d_Model_meanBattery_5 zki_0 ?_
  refine z_istore_n C d_Model_meanBattery_6 rfl (by decide) ?_
  refine z_iconst C d_Model_meanBattery_7 zki_0 ?_
  refine z_istore_n C d_Model_meanBattery_8 rfl (by decide) ?_
  exact z_sub [2, 1, 0] rfl ((w_Model_meanBattery C hm zK) _ _ _ hf)
abbrev rm_Model_reached : Room := { frames := 12, cells := 0, slots := 0, locals := 266 }
theorem d_Model_reached_0 : decode b_Model_reached 0 = .ok (.aload_n 0, 1) := by decide +kernel
theorem d_Model_reached_1 : decode b_Model_reached 1 = .ok (.iconst 0, 1) := by decide +kernel
theorem d_Model_reached_2 : decode b_Model_reached 2 = .ok (.putfield 48, 3) := by decide +kernel
theorem d_Model_reached_5 : decode b_Model_reached 5 = .ok (.aload_n 0, 1) := by decide +kernel
theorem d_Model_reached_6 : decode b_Model_reached 6 = .ok (.iload_n 1, 1) := by decide +kernel
theorem d_Model_reached_7 : decode b_Model_reached 7 = .ok (.invokevirtual 274, 3) := by decide +kernel
theorem d_Model_reached_10 : decode b_Model_reached 10 = .ok (.ifCond .ne 9, 3) := by decide +kernel
theorem d_Model_reached_13 : decode b_Model_reached 13 = .ok (.aload_n 0, 1) := by decide +kernel
theorem d_Model_reached_14 : decode b_Model_reached 14 = .ok (.iconst 1, 1) := by decide +kernel
theorem d_Model_reached_15 : decode b_Model_reached 15 = .ok (.invokevirtual 62, 3) := by decide +kernel
theorem d_Model_reached_18 : decode b_Model_reached 18 = .ok (.ireturn, 1) := by decide +kernel
theorem d_Model_reached_19 : decode b_Model_reached 19 = .ok (.iload_n 2, 1) := by decide +kernel
theorem d_Model_reached_20 : decode b_Model_reached 20 = .ok (.iconst 1, 1) := by decide +kernel
theorem d_Model_reached_21 : decode b_Model_reached 21 = .ok (.sipush 500, 3) := by decide +kernel
theorem d_Model_reached_24 : decode b_Model_reached 24 = .ok (.invokestatic 51, 3) := by decide +kernel
theorem d_Model_reached_27 : decode b_Model_reached 27 = .ok (.ifCond .eq 12, 3) := by decide +kernel
theorem d_Model_reached_30 : decode b_Model_reached 30 = .ok (.iload_n 3, 1) := by decide +kernel
theorem d_Model_reached_31 : decode b_Model_reached 31 = .ok (.iconst 0, 1) := by decide +kernel
theorem d_Model_reached_32 : decode b_Model_reached 32 = .ok (.iconst 2, 1) := by decide +kernel
theorem d_Model_reached_33 : decode b_Model_reached 33 = .ok (.invokestatic 51, 3) := by decide +kernel
theorem d_Model_reached_36 : decode b_Model_reached 36 = .ok (.ifCond .ne 9, 3) := by decide +kernel
theorem d_Model_reached_39 : decode b_Model_reached 39 = .ok (.aload_n 0, 1) := by decide +kernel
theorem d_Model_reached_40 : decode b_Model_reached 40 = .ok (.iconst 2, 1) := by decide +kernel
theorem d_Model_reached_41 : decode b_Model_reached 41 = .ok (.invokevirtual 62, 3) := by decide +kernel
theorem d_Model_reached_44 : decode b_Model_reached 44 = .ok (.ireturn, 1) := by decide +kernel
theorem d_Model_reached_45 : decode b_Model_reached 45 = .ok (.aload_n 0, 1) := by decide +kernel
theorem d_Model_reached_46 : decode b_Model_reached 46 = .ok (.getfield 7, 3) := by decide +kernel
theorem d_Model_reached_49 : decode b_Model_reached 49 = .ok (.iconst 0, 1) := by decide +kernel
theorem d_Model_reached_50 : decode b_Model_reached 50 = .ok (.aload_n 0, 1) := by decide +kernel
theorem d_Model_reached_51 : decode b_Model_reached 51 = .ok (.getfield 16, 3) := by decide +kernel
theorem d_Model_reached_54 : decode b_Model_reached 54 = .ok (.iconst 0, 1) := by decide +kernel
theorem d_Model_reached_55 : decode b_Model_reached 55 = .ok (.invokestatic 171, 3) := by decide +kernel
theorem d_Model_reached_58 : decode b_Model_reached 58 = .ok (.aload_n 0, 1) := by decide +kernel
theorem d_Model_reached_59 : decode b_Model_reached 59 = .ok (.iload_n 2, 1) := by decide +kernel
theorem d_Model_reached_60 : decode b_Model_reached 60 = .ok (.invokevirtual 349, 3) := by decide +kernel
theorem d_Model_reached_63 : decode b_Model_reached 63 = .ok (.aload_n 0, 1) := by decide +kernel
theorem d_Model_reached_64 : decode b_Model_reached 64 = .ok (.iload_n 1, 1) := by decide +kernel
theorem d_Model_reached_65 : decode b_Model_reached 65 = .ok (.iload_n 3, 1) := by decide +kernel
theorem d_Model_reached_66 : decode b_Model_reached 66 = .ok (.invokevirtual 277, 3) := by decide +kernel
theorem d_Model_reached_69 : decode b_Model_reached 69 = .ok (.istore 4, 2) := by decide +kernel
theorem d_Model_reached_71 : decode b_Model_reached 71 = .ok (.aload_n 0, 1) := by decide +kernel
theorem d_Model_reached_72 : decode b_Model_reached 72 = .ok (.getfield 16, 3) := by decide +kernel
theorem d_Model_reached_75 : decode b_Model_reached 75 = .ok (.iconst 0, 1) := by decide +kernel
theorem d_Model_reached_76 : decode b_Model_reached 76 = .ok (.aload_n 0, 1) := by decide +kernel
theorem d_Model_reached_77 : decode b_Model_reached 77 = .ok (.getfield 7, 3) := by decide +kernel
theorem d_Model_reached_80 : decode b_Model_reached 80 = .ok (.iconst 0, 1) := by decide +kernel
theorem d_Model_reached_81 : decode b_Model_reached 81 = .ok (.invokestatic 171, 3) := by decide +kernel
theorem d_Model_reached_84 : decode b_Model_reached 84 = .ok (.iload 4, 2) := by decide +kernel
theorem d_Model_reached_86 : decode b_Model_reached 86 = .ok (.invokestatic 292, 3) := by decide +kernel
theorem d_Model_reached_89 : decode b_Model_reached 89 = .ok (.ireturn, 1) := by decide +kernel
def F_Model_reached (a0 : Int32) (a1 : Int32) (a2 : Int32) (σ : zSt) : Option (Int32 × zSt) :=
  (F_Model_isNews a0 (zst σ 4 80 8 (0 : Int32))).bind fun r2 => if r2 = 0 then (bd2 (F_Model_fail (1 : Int32) (zst σ 4 80 8 (0 : Int32))) fun r26 σ27 => some (r26, σ27)) else ((F_Model_isBetween a1 (1 : Int32) (500 : Int32) (zst σ 4 80 8 (0 : Int32))).bind fun r4 => if r4 = 0 then (bd2 (F_Model_fail (2 : Int32) (zst σ 4 80 8 (0 : Int32))) fun r6 σ7 => some (r6, σ7)) else ((F_Model_isBetween a2 (0 : Int32) (2 : Int32) (zst σ 4 80 8 (0 : Int32))).bind fun r9 => if r9 = 0 then (bd2 (F_Model_fail (2 : Int32) (zst σ 4 80 8 (0 : Int32))) fun r21 σ22 => some (r21, σ22)) else ((F_Model_copy 4 81 (0 : Int32) 4 83 (0 : Int32) (zst σ 4 80 8 (0 : Int32))).bind fun σ11 => (F_Model_passMinutes a1 σ11).bind fun σ13 => (F_Model_housesOf a0 a2 σ13).bind fun r15 => (F_Model_copy 4 83 (0 : Int32) 4 81 (0 : Int32) σ13).bind fun σ17 => (F_Model_size r15 σ17).bind fun r19 => some (r19, σ17))))
set_option maxHeartbeats 4000000 in
set_option maxRecDepth 100000 in
theorem c_Model_reached {l : Launch} {G : zLA} (hm : zml G) {a0 : Int32} {a1 : Int32} {a2 : Int32} {σ : zSt} {r : Int32} {σ' : zSt} (hf : F_Model_reached a0 a1 a2 σ = some (r, σ')) : zM l G y_Model_reached (zws y_Model_reached b_Model_reached 5 (some .int)) rm_Model_reached [.ref (zad G 4 80), .int a0, .int a1, .int a2] σ (some (.int r)) σ' := by
  refine z_ofM (own := "VillageWavesModel") (lv := [(0, .ref (zad G 4 80)), (1, .int a0), (2, .int a1), (3, .int a2)]) (by decide +kernel) rfl rfl (Nat.le_of_ble_eq_true rfl) (fun p e s m args below meth c C => ?_)
  rw [F_Model_reached] at hf
  refine z_aload_n C d_Model_reached_0 0 rfl rfl ?_
  refine z_iconst C d_Model_reached_1 zki_0 ?_
  refine pf_Model_48 C (zm4 hm 80 rfl) rfl (Nat.le_of_ble_eq_true rfl) rfl d_Model_reached_2 ?_
  refine z_aload_n C d_Model_reached_5 0 rfl rfl ?_
  refine z_iload_n C d_Model_reached_6 1 rfl rfl ?_
  obtain ⟨r2, h1, hf⟩ := bd_s hf
  refine z_cVi C kl_Model_274 rfl (c_Model_isNews hm h1) (zm4 hm 80 rfl) rfl rfl rfl (Nat.le_of_ble_eq_true rfl) ⟨(Nat.le_of_ble_eq_true rfl), (Nat.le_of_ble_eq_true rfl)⟩ ⟨(Nat.le_of_ble_eq_true rfl), (Nat.le_of_ble_eq_true rfl)⟩ d_Model_reached_7 ?_
  refine z_if_ne (tgt := 19) C d_Model_reached_10 rfl (fun h28 => ?_) (fun h28 => ?_)
  · have hf := iff_f hf h28
    refine z_iload_n C d_Model_reached_19 2 rfl rfl ?_
    refine z_iconst C d_Model_reached_20 zki_1 ?_
    refine z_sipush C d_Model_reached_21 zks_500 ?_
    obtain ⟨r4, h3, hf⟩ := bd_s hf
    refine z_cSi C kl_Model_51 (c_Model_isBetween h3) rfl rfl (Nat.le_of_ble_eq_true rfl) ⟨(Nat.le_of_ble_eq_true rfl), (Nat.le_of_ble_eq_true rfl)⟩ ⟨(Nat.le_of_ble_eq_true rfl), (Nat.le_of_ble_eq_true rfl)⟩ d_Model_reached_24 ?_
    refine z_if_eq (tgt := 39) C d_Model_reached_27 rfl (fun h24 => ?_) (fun h24 => ?_)
    · have hf := iff_t hf h24
      refine z_aload_n C d_Model_reached_39 0 rfl rfl ?_
      refine z_iconst C d_Model_reached_40 zki_2 ?_
      obtain ⟨r6, σ7, h5, hf⟩ := bd2_s hf
      refine z_cVi C kl_Model_62 rfl (c_Model_fail hm h5) (zm4 hm 80 rfl) rfl rfl rfl (Nat.le_of_ble_eq_true rfl) ⟨(Nat.le_of_ble_eq_true rfl), (Nat.le_of_ble_eq_true rfl)⟩ ⟨(Nat.le_of_ble_eq_true rfl), (Nat.le_of_ble_eq_true rfl)⟩ d_Model_reached_41 ?_
      cases hf
      exact z_iret C rfl (Nat.le_of_ble_eq_true rfl) (Nat.le_of_ble_eq_true rfl) d_Model_reached_44
    · have hf := iff_f hf h24
      refine z_iload_n C d_Model_reached_30 3 rfl rfl ?_
      refine z_iconst C d_Model_reached_31 zki_0 ?_
      refine z_iconst C d_Model_reached_32 zki_2 ?_
      obtain ⟨r9, h8, hf⟩ := bd_s hf
      refine z_cSi C kl_Model_51 (c_Model_isBetween h8) rfl rfl (Nat.le_of_ble_eq_true rfl) ⟨(Nat.le_of_ble_eq_true rfl), (Nat.le_of_ble_eq_true rfl)⟩ ⟨(Nat.le_of_ble_eq_true rfl), (Nat.le_of_ble_eq_true rfl)⟩ d_Model_reached_33 ?_
      refine z_if_ne (tgt := 45) C d_Model_reached_36 rfl (fun h23 => ?_) (fun h23 => ?_)
      · have hf := iff_f hf h23
        refine z_aload_n C d_Model_reached_45 0 rfl rfl ?_
        refine gf_Model_7 C (zm4 hm 80 rfl) rfl rfl d_Model_reached_46 ?_
        refine z_iconst C d_Model_reached_49 zki_0 ?_
        refine z_aload_n C d_Model_reached_50 0 rfl rfl ?_
        refine gf_Model_16 C (zm4 hm 80 rfl) rfl rfl d_Model_reached_51 ?_
        refine z_iconst C d_Model_reached_54 zki_0 ?_
        obtain ⟨σ11, h10, hf⟩ := bd_s hf
        refine z_cSv C kl_Model_171 (c_Model_copy ⟨(zm4 hm 81 rfl), (fun _ _ _ _ => rfl)⟩ ⟨(zm4 hm 83 rfl), (fun _ _ _ _ => rfl)⟩ h10) rfl rfl (Nat.le_of_ble_eq_true rfl) ⟨(Nat.le_of_ble_eq_true rfl), (Nat.le_of_ble_eq_true rfl)⟩ ⟨(Nat.le_of_ble_eq_true rfl), (Nat.le_of_ble_eq_true rfl)⟩ d_Model_reached_55 ?_
        refine z_aload_n C d_Model_reached_58 0 rfl rfl ?_
        refine z_iload_n C d_Model_reached_59 2 rfl rfl ?_
        obtain ⟨σ13, h12, hf⟩ := bd_s hf
        refine z_cVv C kl_Model_349 rfl (c_Model_passMinutes hm h12) (zm4 hm 80 rfl) rfl rfl rfl (Nat.le_of_ble_eq_true rfl) ⟨(Nat.le_of_ble_eq_true rfl), (Nat.le_of_ble_eq_true rfl)⟩ ⟨(Nat.le_of_ble_eq_true rfl), (Nat.le_of_ble_eq_true rfl)⟩ d_Model_reached_60 ?_
        refine z_aload_n C d_Model_reached_63 0 rfl rfl ?_
        refine z_iload_n C d_Model_reached_64 1 rfl rfl ?_
        refine z_iload_n C d_Model_reached_65 3 rfl rfl ?_
        obtain ⟨r15, h14, hf⟩ := bd_s hf
        refine z_cVi C kl_Model_277 rfl (c_Model_housesOf hm h14) (zm4 hm 80 rfl) rfl rfl rfl (Nat.le_of_ble_eq_true rfl) ⟨(Nat.le_of_ble_eq_true rfl), (Nat.le_of_ble_eq_true rfl)⟩ ⟨(Nat.le_of_ble_eq_true rfl), (Nat.le_of_ble_eq_true rfl)⟩ d_Model_reached_66 ?_
        refine z_istore C d_Model_reached_69 (by decide) ?_
        refine z_aload_n C d_Model_reached_71 1 rfl rfl ?_
        refine gf_Model_16 C (zm4 hm 80 rfl) rfl rfl d_Model_reached_72 ?_
        refine z_iconst C d_Model_reached_75 zki_0 ?_
        refine z_aload_n C d_Model_reached_76 1 rfl rfl ?_
        refine gf_Model_7 C (zm4 hm 80 rfl) rfl rfl d_Model_reached_77 ?_
        refine z_iconst C d_Model_reached_80 zki_0 ?_
        obtain ⟨σ17, h16, hf⟩ := bd_s hf
        refine z_cSv C kl_Model_171 (c_Model_copy ⟨(zm4 hm 83 rfl), (fun _ _ _ _ => rfl)⟩ ⟨(zm4 hm 81 rfl), (fun _ _ _ _ => rfl)⟩ h16) rfl rfl (Nat.le_of_ble_eq_true rfl) ⟨(Nat.le_of_ble_eq_true rfl), (Nat.le_of_ble_eq_true rfl)⟩ ⟨(Nat.le_of_ble_eq_true rfl), (Nat.le_of_ble_eq_true rfl)⟩ d_Model_reached_81 ?_
        refine z_iload C d_Model_reached_84 0 rfl ?_
        obtain ⟨r19, h18, hf⟩ := bd_s hf
        refine z_cSi C kl_Model_292 (c_Model_size h18) rfl rfl (Nat.le_of_ble_eq_true rfl) ⟨(Nat.le_of_ble_eq_true rfl), (Nat.le_of_ble_eq_true rfl)⟩ ⟨(Nat.le_of_ble_eq_true rfl), (Nat.le_of_ble_eq_true rfl)⟩ d_Model_reached_86 ?_
        cases hf
        exact z_iret C rfl (Nat.le_of_ble_eq_true rfl) (Nat.le_of_ble_eq_true rfl) d_Model_reached_89
      · have hf := iff_t hf h23
        refine z_aload_n C d_Model_reached_39 0 rfl rfl ?_
        refine z_iconst C d_Model_reached_40 zki_2 ?_
        obtain ⟨r21, σ22, h20, hf⟩ := bd2_s hf
        refine z_cVi C kl_Model_62 rfl (c_Model_fail hm h20) (zm4 hm 80 rfl) rfl rfl rfl (Nat.le_of_ble_eq_true rfl) ⟨(Nat.le_of_ble_eq_true rfl), (Nat.le_of_ble_eq_true rfl)⟩ ⟨(Nat.le_of_ble_eq_true rfl), (Nat.le_of_ble_eq_true rfl)⟩ d_Model_reached_41 ?_
        cases hf
        exact z_iret C rfl (Nat.le_of_ble_eq_true rfl) (Nat.le_of_ble_eq_true rfl) d_Model_reached_44
  · have hf := iff_t hf h28
    refine z_aload_n C d_Model_reached_13 0 rfl rfl ?_
    refine z_iconst C d_Model_reached_14 zki_1 ?_
    obtain ⟨r26, σ27, h25, hf⟩ := bd2_s hf
    refine z_cVi C kl_Model_62 rfl (c_Model_fail hm h25) (zm4 hm 80 rfl) rfl rfl rfl (Nat.le_of_ble_eq_true rfl) ⟨(Nat.le_of_ble_eq_true rfl), (Nat.le_of_ble_eq_true rfl)⟩ ⟨(Nat.le_of_ble_eq_true rfl), (Nat.le_of_ble_eq_true rfl)⟩ d_Model_reached_15 ?_
    cases hf
    exact z_iret C rfl (Nat.le_of_ble_eq_true rfl) (Nat.le_of_ble_eq_true rfl) d_Model_reached_18
abbrev rm_Model_correctedIn : Room := { frames := 11, cells := 0, slots := 0, locals := 244 }
theorem d_Model_correctedIn_0 : decode b_Model_correctedIn 0 = .ok (.aload_n 0, 1) := by decide +kernel
theorem d_Model_correctedIn_1 : decode b_Model_correctedIn 1 = .ok (.iconst 0, 1) := by decide +kernel
theorem d_Model_correctedIn_2 : decode b_Model_correctedIn 2 = .ok (.putfield 48, 3) := by decide +kernel
theorem d_Model_correctedIn_5 : decode b_Model_correctedIn 5 = .ok (.aload_n 0, 1) := by decide +kernel
theorem d_Model_correctedIn_6 : decode b_Model_correctedIn 6 = .ok (.iload_n 1, 1) := by decide +kernel
theorem d_Model_correctedIn_7 : decode b_Model_correctedIn 7 = .ok (.invokevirtual 274, 3) := by decide +kernel
theorem d_Model_correctedIn_10 : decode b_Model_correctedIn 10 = .ok (.ifCond .ne 9, 3) := by decide +kernel
theorem d_Model_correctedIn_13 : decode b_Model_correctedIn 13 = .ok (.aload_n 0, 1) := by decide +kernel
theorem d_Model_correctedIn_14 : decode b_Model_correctedIn 14 = .ok (.iconst 1, 1) := by decide +kernel
theorem d_Model_correctedIn_15 : decode b_Model_correctedIn 15 = .ok (.invokevirtual 62, 3) := by decide +kernel
theorem d_Model_correctedIn_18 : decode b_Model_correctedIn 18 = .ok (.ireturn, 1) := by decide +kernel
theorem d_Model_correctedIn_19 : decode b_Model_correctedIn 19 = .ok (.iload_n 2, 1) := by decide +kernel
theorem d_Model_correctedIn_20 : decode b_Model_correctedIn 20 = .ok (.iconst 1, 1) := by decide +kernel
theorem d_Model_correctedIn_21 : decode b_Model_correctedIn 21 = .ok (.sipush 500, 3) := by decide +kernel
theorem d_Model_correctedIn_24 : decode b_Model_correctedIn 24 = .ok (.invokestatic 51, 3) := by decide +kernel
theorem d_Model_correctedIn_27 : decode b_Model_correctedIn 27 = .ok (.ifCond .ne 9, 3) := by decide +kernel
theorem d_Model_correctedIn_30 : decode b_Model_correctedIn 30 = .ok (.aload_n 0, 1) := by decide +kernel
theorem d_Model_correctedIn_31 : decode b_Model_correctedIn 31 = .ok (.iconst 2, 1) := by decide +kernel
theorem d_Model_correctedIn_32 : decode b_Model_correctedIn 32 = .ok (.invokevirtual 62, 3) := by decide +kernel
theorem d_Model_correctedIn_35 : decode b_Model_correctedIn 35 = .ok (.ireturn, 1) := by decide +kernel
theorem d_Model_correctedIn_36 : decode b_Model_correctedIn 36 = .ok (.aload_n 0, 1) := by decide +kernel
theorem d_Model_correctedIn_37 : decode b_Model_correctedIn 37 = .ok (.iload_n 1, 1) := by decide +kernel
theorem d_Model_correctedIn_38 : decode b_Model_correctedIn 38 = .ok (.invokevirtual 219, 3) := by decide +kernel
theorem d_Model_correctedIn_41 : decode b_Model_correctedIn 41 = .ok (.ifCond .ne 5, 3) := by decide +kernel
theorem d_Model_correctedIn_44 : decode b_Model_correctedIn 44 = .ok (.iconst (-1), 1) := by decide +kernel
theorem d_Model_correctedIn_45 : decode b_Model_correctedIn 45 = .ok (.ireturn, 1) := by decide +kernel
theorem d_Model_correctedIn_46 : decode b_Model_correctedIn 46 = .ok (.aload_n 0, 1) := by decide +kernel
theorem d_Model_correctedIn_47 : decode b_Model_correctedIn 47 = .ok (.getfield 7, 3) := by decide +kernel
theorem d_Model_correctedIn_50 : decode b_Model_correctedIn 50 = .ok (.iconst 0, 1) := by decide +kernel
theorem d_Model_correctedIn_51 : decode b_Model_correctedIn 51 = .ok (.aload_n 0, 1) := by decide +kernel
theorem d_Model_correctedIn_52 : decode b_Model_correctedIn 52 = .ok (.getfield 16, 3) := by decide +kernel
theorem d_Model_correctedIn_55 : decode b_Model_correctedIn 55 = .ok (.iconst 0, 1) := by decide +kernel
theorem d_Model_correctedIn_56 : decode b_Model_correctedIn 56 = .ok (.invokestatic 171, 3) := by decide +kernel
theorem d_Model_correctedIn_59 : decode b_Model_correctedIn 59 = .ok (.iconst 0, 1) := by decide +kernel
theorem d_Model_correctedIn_60 : decode b_Model_correctedIn 60 = .ok (.istore_n 3, 1) := by decide +kernel
theorem d_Model_correctedIn_61 : decode b_Model_correctedIn 61 = .ok (.iload_n 3, 1) := by decide +kernel
theorem d_Model_correctedIn_62 : decode b_Model_correctedIn 62 = .ok (.iload_n 2, 1) := by decide +kernel
theorem d_Model_correctedIn_63 : decode b_Model_correctedIn 63 = .ok (.if_icmp .ge 22, 3) := by decide +kernel
theorem d_Model_correctedIn_66 : decode b_Model_correctedIn 66 = .ok (.aload_n 0, 1) := by decide +kernel
theorem d_Model_correctedIn_67 : decode b_Model_correctedIn 67 = .ok (.iload_n 1, 1) := by decide +kernel
theorem d_Model_correctedIn_68 : decode b_Model_correctedIn 68 = .ok (.iconst 2, 1) := by decide +kernel
theorem d_Model_correctedIn_69 : decode b_Model_correctedIn 69 = .ok (.invokevirtual 277, 3) := by decide +kernel
theorem d_Model_correctedIn_72 : decode b_Model_correctedIn 72 = .ok (.ifCond .eq 13, 3) := by decide +kernel
theorem d_Model_correctedIn_75 : decode b_Model_correctedIn 75 = .ok (.aload_n 0, 1) := by decide +kernel
theorem d_Model_correctedIn_76 : decode b_Model_correctedIn 76 = .ok (.invokevirtual 346, 3) := by decide +kernel
theorem d_Model_correctedIn_79 : decode b_Model_correctedIn 79 = .ok (.iinc 3 1, 3) := by decide +kernel
theorem d_Model_correctedIn_82 : decode b_Model_correctedIn 82 = .ok (.goto (-21), 3) := by decide +kernel
theorem d_Model_correctedIn_85 : decode b_Model_correctedIn 85 = .ok (.aload_n 0, 1) := by decide +kernel
theorem d_Model_correctedIn_86 : decode b_Model_correctedIn 86 = .ok (.iload_n 1, 1) := by decide +kernel
theorem d_Model_correctedIn_87 : decode b_Model_correctedIn 87 = .ok (.iconst 2, 1) := by decide +kernel
theorem d_Model_correctedIn_88 : decode b_Model_correctedIn 88 = .ok (.invokevirtual 277, 3) := by decide +kernel
theorem d_Model_correctedIn_91 : decode b_Model_correctedIn 91 = .ok (.ifCond .ne 7, 3) := by decide +kernel
theorem d_Model_correctedIn_94 : decode b_Model_correctedIn 94 = .ok (.iconst 1, 1) := by decide +kernel
theorem d_Model_correctedIn_95 : decode b_Model_correctedIn 95 = .ok (.goto 4, 3) := by decide +kernel
theorem d_Model_correctedIn_98 : decode b_Model_correctedIn 98 = .ok (.iconst 0, 1) := by decide +kernel
theorem d_Model_correctedIn_99 : decode b_Model_correctedIn 99 = .ok (.istore 4, 2) := by decide +kernel
theorem d_Model_correctedIn_101 : decode b_Model_correctedIn 101 = .ok (.aload_n 0, 1) := by decide +kernel
theorem d_Model_correctedIn_102 : decode b_Model_correctedIn 102 = .ok (.getfield 16, 3) := by decide +kernel
theorem d_Model_correctedIn_105 : decode b_Model_correctedIn 105 = .ok (.iconst 0, 1) := by decide +kernel
theorem d_Model_correctedIn_106 : decode b_Model_correctedIn 106 = .ok (.aload_n 0, 1) := by decide +kernel
theorem d_Model_correctedIn_107 : decode b_Model_correctedIn 107 = .ok (.getfield 7, 3) := by decide +kernel
theorem d_Model_correctedIn_110 : decode b_Model_correctedIn 110 = .ok (.iconst 0, 1) := by decide +kernel
theorem d_Model_correctedIn_111 : decode b_Model_correctedIn 111 = .ok (.invokestatic 171, 3) := by decide +kernel
theorem d_Model_correctedIn_114 : decode b_Model_correctedIn 114 = .ok (.iload 4, 2) := by decide +kernel
theorem d_Model_correctedIn_116 : decode b_Model_correctedIn 116 = .ok (.ifCond .eq 7, 3) := by decide +kernel
theorem d_Model_correctedIn_119 : decode b_Model_correctedIn 119 = .ok (.iload_n 3, 1) := by decide +kernel
theorem d_Model_correctedIn_120 : decode b_Model_correctedIn 120 = .ok (.goto 4, 3) := by decide +kernel
theorem d_Model_correctedIn_123 : decode b_Model_correctedIn 123 = .ok (.iconst (-1), 1) := by decide +kernel
theorem d_Model_correctedIn_124 : decode b_Model_correctedIn 124 = .ok (.ireturn, 1) := by decide +kernel
def L_Model_correctedIn : Nat → Nat → Int32 → Int32 → Int32 → Int32 → zSt → Option (Int32 × zSt)
  | 0, _, _, _, _, _, _ => none
  | n + 1, 0, x1, x2, x3, y0, σ => if x2 ≤ x3 then ((F_Model_housesOf x1 (2 : Int32) σ).bind fun r19 => if r19 = 0 then L_Model_correctedIn n 1 0 0 x3 (1 : Int32) σ else L_Model_correctedIn n 1 0 0 x3 (0 : Int32) σ) else ((F_Model_housesOf x1 (2 : Int32) σ).bind fun r22 => if r22 = 0 then ((F_Model_housesOf x1 (2 : Int32) σ).bind fun r24 => if r24 = 0 then L_Model_correctedIn n 1 0 0 x3 (1 : Int32) σ else L_Model_correctedIn n 1 0 0 x3 (0 : Int32) σ) else ((F_Model_passMinute σ).bind fun σ27 => L_Model_correctedIn n 0 x1 x2 (x3 + (1 : Int32)) 0 σ27))
  | n + 1, 1, x1, x2, x3, y0, σ => (F_Model_copy 4 83 (0 : Int32) 4 81 (0 : Int32) σ).bind fun σ31 => if y0 = 0 then some ((-1 : Int32), σ31) else some (x3, σ31)
  | _ + 1, _, _, _, _, _, _ => none
theorem e_Model_correctedIn_0 (n : Nat) (x1 : Int32) (x2 : Int32) (x3 : Int32) (y0 : Int32) (σ : zSt) : L_Model_correctedIn (n + 1) 0 x1 x2 x3 y0 σ = (if x2 ≤ x3 then ((F_Model_housesOf x1 (2 : Int32) σ).bind fun r19 => if r19 = 0 then L_Model_correctedIn n 1 0 0 x3 (1 : Int32) σ else L_Model_correctedIn n 1 0 0 x3 (0 : Int32) σ) else ((F_Model_housesOf x1 (2 : Int32) σ).bind fun r22 => if r22 = 0 then ((F_Model_housesOf x1 (2 : Int32) σ).bind fun r24 => if r24 = 0 then L_Model_correctedIn n 1 0 0 x3 (1 : Int32) σ else L_Model_correctedIn n 1 0 0 x3 (0 : Int32) σ) else ((F_Model_passMinute σ).bind fun σ27 => L_Model_correctedIn n 0 x1 x2 (x3 + (1 : Int32)) 0 σ27))) := rfl
theorem e_Model_correctedIn_1 (n : Nat) (x1 : Int32) (x2 : Int32) (x3 : Int32) (y0 : Int32) (σ : zSt) : L_Model_correctedIn (n + 1) 1 x1 x2 x3 y0 σ = ((F_Model_copy 4 83 (0 : Int32) 4 81 (0 : Int32) σ).bind fun σ31 => if y0 = 0 then some ((-1 : Int32), σ31) else some (x3, σ31)) := rfl
set_option maxHeartbeats 4000000 in
set_option maxRecDepth 100000 in
theorem w_Model_correctedIn {l : Launch} {G : zLA} {p : Program} {e : Env} {s : State} {m : MethodId} {args : Array Value} {below : List Frame} {meth : Method} {c : Code} (C : zCx G p s m args meth c "VillageWavesModel" b_Model_correctedIn 5 (some .int)) (hm : zml G) {r : Int32} {σ' : zSt} : ∀ n : Nat, (∀ (x1 : Int32) (x2 : Int32) (x3 : Int32) (y0 : Int32) (σ : zSt), L_Model_correctedIn n 0 x1 x2 x3 y0 σ = some (r, σ') → zWV G p l e rm_Model_correctedIn s m args below meth c 5 0 0 (zQ G below args s rm_Model_correctedIn (some (.int r)) σ') 61 [(0, .ref (zad G 4 80)), (1, .int x1), (2, .int x2), (3, .int x3)] [] σ) ∧ (∀ (x1 : Int32) (x2 : Int32) (x3 : Int32) (y0 : Int32) (σ : zSt), L_Model_correctedIn n 1 x1 x2 x3 y0 σ = some (r, σ') → zWV G p l e rm_Model_correctedIn s m args below meth c 5 0 0 (zQ G below args s rm_Model_correctedIn (some (.int r)) σ') 99 [(0, .ref (zad G 4 80)), (3, .int x3)] [.int y0] σ) := by
  intro n
  induction n with
  | zero => exact ⟨fun _ _ _ _ _ hf => (by cases hf), fun _ _ _ _ _ hf => (by cases hf)⟩
  | succ n ih =>
    refine ⟨?_, ?_⟩
    · intro x1 x2 x3 y0 σ hf
      rw [e_Model_correctedIn_0] at hf
      refine z_iload_n C d_Model_correctedIn_61 3 rfl rfl ?_
      refine z_iload_n C d_Model_correctedIn_62 2 rfl rfl ?_
      refine z_icmp_ge (tgt := 85) C d_Model_correctedIn_63 rfl (fun h29 => ?_) (fun h29 => ?_)
      · have hf := iff_t hf h29
        refine z_aload_n C d_Model_correctedIn_85 0 rfl rfl ?_
        refine z_iload_n C d_Model_correctedIn_86 1 rfl rfl ?_
        refine z_iconst C d_Model_correctedIn_87 zki_2 ?_
        obtain ⟨r19, h18, hf⟩ := bd_s hf
        refine z_cVi C kl_Model_277 rfl (c_Model_housesOf hm h18) (zm4 hm 80 rfl) rfl rfl rfl (Nat.le_of_ble_eq_true rfl) ⟨(Nat.le_of_ble_eq_true rfl), (Nat.le_of_ble_eq_true rfl)⟩ ⟨(Nat.le_of_ble_eq_true rfl), (Nat.le_of_ble_eq_true rfl)⟩ d_Model_correctedIn_88 ?_
        refine z_if_ne (tgt := 98) C d_Model_correctedIn_91 rfl (fun h20 => ?_) (fun h20 => ?_)
        · have hf := iff_f hf h20
          refine z_iconst C d_Model_correctedIn_98 zki_0 ?_
          exact z_sub [0, 3] rfl (ih.2 _ _ _ _ _ hf)
        · have hf := iff_t hf h20
          refine z_iconst C d_Model_correctedIn_94 zki_1 ?_
          refine z_goto (tgt := 99) C d_Model_correctedIn_95 rfl ?_
          exact z_sub [0, 3] rfl (ih.2 _ _ _ _ _ hf)
      · have hf := iff_f hf h29
        refine z_aload_n C d_Model_correctedIn_66 0 rfl rfl ?_
        refine z_iload_n C d_Model_correctedIn_67 1 rfl rfl ?_
        refine z_iconst C d_Model_correctedIn_68 zki_2 ?_
        obtain ⟨r22, h21, hf⟩ := bd_s hf
        refine z_cVi C kl_Model_277 rfl (c_Model_housesOf hm h21) (zm4 hm 80 rfl) rfl rfl rfl (Nat.le_of_ble_eq_true rfl) ⟨(Nat.le_of_ble_eq_true rfl), (Nat.le_of_ble_eq_true rfl)⟩ ⟨(Nat.le_of_ble_eq_true rfl), (Nat.le_of_ble_eq_true rfl)⟩ d_Model_correctedIn_69 ?_
        refine z_if_eq (tgt := 85) C d_Model_correctedIn_72 rfl (fun h28 => ?_) (fun h28 => ?_)
        · have hf := iff_t hf h28
          refine z_aload_n C d_Model_correctedIn_85 0 rfl rfl ?_
          refine z_iload_n C d_Model_correctedIn_86 1 rfl rfl ?_
          refine z_iconst C d_Model_correctedIn_87 zki_2 ?_
          obtain ⟨r24, h23, hf⟩ := bd_s hf
          refine z_cVi C kl_Model_277 rfl (c_Model_housesOf hm h23) (zm4 hm 80 rfl) rfl rfl rfl (Nat.le_of_ble_eq_true rfl) ⟨(Nat.le_of_ble_eq_true rfl), (Nat.le_of_ble_eq_true rfl)⟩ ⟨(Nat.le_of_ble_eq_true rfl), (Nat.le_of_ble_eq_true rfl)⟩ d_Model_correctedIn_88 ?_
          refine z_if_ne (tgt := 98) C d_Model_correctedIn_91 rfl (fun h25 => ?_) (fun h25 => ?_)
          · have hf := iff_f hf h25
            refine z_iconst C d_Model_correctedIn_98 zki_0 ?_
            exact z_sub [0, 3] rfl (ih.2 _ _ _ _ _ hf)
          · have hf := iff_t hf h25
            refine z_iconst C d_Model_correctedIn_94 zki_1 ?_
            refine z_goto (tgt := 99) C d_Model_correctedIn_95 rfl ?_
            exact z_sub [0, 3] rfl (ih.2 _ _ _ _ _ hf)
        · have hf := iff_f hf h28
          refine z_aload_n C d_Model_correctedIn_75 0 rfl rfl ?_
          obtain ⟨σ27, h26, hf⟩ := bd_s hf
          refine z_cVv C kl_Model_346 rfl (c_Model_passMinute hm h26) (zm4 hm 80 rfl) rfl rfl rfl (Nat.le_of_ble_eq_true rfl) ⟨(Nat.le_of_ble_eq_true rfl), (Nat.le_of_ble_eq_true rfl)⟩ ⟨(Nat.le_of_ble_eq_true rfl), (Nat.le_of_ble_eq_true rfl)⟩ d_Model_correctedIn_76 ?_
          refine z_iinc C d_Model_correctedIn_79 3 rfl zki_1 (by decide) ?_
          refine z_goto (tgt := 61) C d_Model_correctedIn_82 rfl ?_
          exact z_sub [1, 2, 3, 0] rfl (ih.1 _ _ _ _ _ hf)
    · intro x1 x2 x3 y0 σ hf
      rw [e_Model_correctedIn_1] at hf
      refine z_istore C d_Model_correctedIn_99 (by decide) ?_
      refine z_aload_n C d_Model_correctedIn_101 1 rfl rfl ?_
      refine gf_Model_16 C (zm4 hm 80 rfl) rfl rfl d_Model_correctedIn_102 ?_
      refine z_iconst C d_Model_correctedIn_105 zki_0 ?_
      refine z_aload_n C d_Model_correctedIn_106 1 rfl rfl ?_
      refine gf_Model_7 C (zm4 hm 80 rfl) rfl rfl d_Model_correctedIn_107 ?_
      refine z_iconst C d_Model_correctedIn_110 zki_0 ?_
      obtain ⟨σ31, h30, hf⟩ := bd_s hf
      refine z_cSv C kl_Model_171 (c_Model_copy ⟨(zm4 hm 83 rfl), (fun _ _ _ _ => rfl)⟩ ⟨(zm4 hm 81 rfl), (fun _ _ _ _ => rfl)⟩ h30) rfl rfl (Nat.le_of_ble_eq_true rfl) ⟨(Nat.le_of_ble_eq_true rfl), (Nat.le_of_ble_eq_true rfl)⟩ ⟨(Nat.le_of_ble_eq_true rfl), (Nat.le_of_ble_eq_true rfl)⟩ d_Model_correctedIn_111 ?_
      refine z_iload C d_Model_correctedIn_114 0 rfl ?_
      refine z_if_eq (tgt := 123) C d_Model_correctedIn_116 rfl (fun h32 => ?_) (fun h32 => ?_)
      · have hf := iff_t hf h32
        refine z_iconst C d_Model_correctedIn_123 zki_m1 ?_
        cases hf
        exact z_iret C rfl (Nat.le_of_ble_eq_true rfl) (Nat.le_of_ble_eq_true rfl) d_Model_correctedIn_124
      · have hf := iff_f hf h32
        refine z_iload_n C d_Model_correctedIn_119 2 rfl rfl ?_
        refine z_goto (tgt := 124) C d_Model_correctedIn_120 rfl ?_
        cases hf
        exact z_iret C rfl (Nat.le_of_ble_eq_true rfl) (Nat.le_of_ble_eq_true rfl) d_Model_correctedIn_124
def F_Model_correctedIn (a0 : Int32) (a1 : Int32) (σ : zSt) : Option (Int32 × zSt) :=
  (F_Model_isNews a0 (zst σ 4 80 8 (0 : Int32))).bind fun r2 => if r2 = 0 then (bd2 (F_Model_fail (1 : Int32) (zst σ 4 80 8 (0 : Int32))) fun r15 σ16 => some (r15, σ16)) else ((F_Model_isBetween a1 (1 : Int32) (500 : Int32) (zst σ 4 80 8 (0 : Int32))).bind fun r4 => if r4 = 0 then (bd2 (F_Model_fail (2 : Int32) (zst σ 4 80 8 (0 : Int32))) fun r11 σ12 => some (r11, σ12)) else ((F_Model_isCorrected a0 (zst σ 4 80 8 (0 : Int32))).bind fun r6 => if r6 = 0 then some ((-1 : Int32), (zst σ 4 80 8 (0 : Int32))) else ((F_Model_copy 4 81 (0 : Int32) 4 83 (0 : Int32) (zst σ 4 80 8 (0 : Int32))).bind fun σ8 => L_Model_correctedIn zK 0 a0 a1 (0 : Int32) 0 σ8)))
set_option maxHeartbeats 4000000 in
set_option maxRecDepth 100000 in
theorem c_Model_correctedIn {l : Launch} {G : zLA} (hm : zml G) {a0 : Int32} {a1 : Int32} {σ : zSt} {r : Int32} {σ' : zSt} (hf : F_Model_correctedIn a0 a1 σ = some (r, σ')) : zM l G y_Model_correctedIn (zws y_Model_correctedIn b_Model_correctedIn 5 (some .int)) rm_Model_correctedIn [.ref (zad G 4 80), .int a0, .int a1] σ (some (.int r)) σ' := by
  refine z_ofM (own := "VillageWavesModel") (lv := [(0, .ref (zad G 4 80)), (1, .int a0), (2, .int a1)]) (by decide +kernel) rfl rfl (Nat.le_of_ble_eq_true rfl) (fun p e s m args below meth c C => ?_)
  rw [F_Model_correctedIn] at hf
  refine z_aload_n C d_Model_correctedIn_0 0 rfl rfl ?_
  refine z_iconst C d_Model_correctedIn_1 zki_0 ?_
  refine pf_Model_48 C (zm4 hm 80 rfl) rfl (Nat.le_of_ble_eq_true rfl) rfl d_Model_correctedIn_2 ?_
  refine z_aload_n C d_Model_correctedIn_5 0 rfl rfl ?_
  refine z_iload_n C d_Model_correctedIn_6 1 rfl rfl ?_
  obtain ⟨r2, h1, hf⟩ := bd_s hf
  refine z_cVi C kl_Model_274 rfl (c_Model_isNews hm h1) (zm4 hm 80 rfl) rfl rfl rfl (Nat.le_of_ble_eq_true rfl) ⟨(Nat.le_of_ble_eq_true rfl), (Nat.le_of_ble_eq_true rfl)⟩ ⟨(Nat.le_of_ble_eq_true rfl), (Nat.le_of_ble_eq_true rfl)⟩ d_Model_correctedIn_7 ?_
  refine z_if_ne (tgt := 19) C d_Model_correctedIn_10 rfl (fun h17 => ?_) (fun h17 => ?_)
  · have hf := iff_f hf h17
    refine z_iload_n C d_Model_correctedIn_19 2 rfl rfl ?_
    refine z_iconst C d_Model_correctedIn_20 zki_1 ?_
    refine z_sipush C d_Model_correctedIn_21 zks_500 ?_
    obtain ⟨r4, h3, hf⟩ := bd_s hf
    refine z_cSi C kl_Model_51 (c_Model_isBetween h3) rfl rfl (Nat.le_of_ble_eq_true rfl) ⟨(Nat.le_of_ble_eq_true rfl), (Nat.le_of_ble_eq_true rfl)⟩ ⟨(Nat.le_of_ble_eq_true rfl), (Nat.le_of_ble_eq_true rfl)⟩ d_Model_correctedIn_24 ?_
    refine z_if_ne (tgt := 36) C d_Model_correctedIn_27 rfl (fun h13 => ?_) (fun h13 => ?_)
    · have hf := iff_f hf h13
      refine z_aload_n C d_Model_correctedIn_36 0 rfl rfl ?_
      refine z_iload_n C d_Model_correctedIn_37 1 rfl rfl ?_
      obtain ⟨r6, h5, hf⟩ := bd_s hf
      refine z_cVi C kl_Model_219 rfl (c_Model_isCorrected hm h5) (zm4 hm 80 rfl) rfl rfl rfl (Nat.le_of_ble_eq_true rfl) ⟨(Nat.le_of_ble_eq_true rfl), (Nat.le_of_ble_eq_true rfl)⟩ ⟨(Nat.le_of_ble_eq_true rfl), (Nat.le_of_ble_eq_true rfl)⟩ d_Model_correctedIn_38 ?_
      refine z_if_ne (tgt := 46) C d_Model_correctedIn_41 rfl (fun h9 => ?_) (fun h9 => ?_)
      · have hf := iff_f hf h9
        refine z_aload_n C d_Model_correctedIn_46 0 rfl rfl ?_
        refine gf_Model_7 C (zm4 hm 80 rfl) rfl rfl d_Model_correctedIn_47 ?_
        refine z_iconst C d_Model_correctedIn_50 zki_0 ?_
        refine z_aload_n C d_Model_correctedIn_51 0 rfl rfl ?_
        refine gf_Model_16 C (zm4 hm 80 rfl) rfl rfl d_Model_correctedIn_52 ?_
        refine z_iconst C d_Model_correctedIn_55 zki_0 ?_
        obtain ⟨σ8, h7, hf⟩ := bd_s hf
        refine z_cSv C kl_Model_171 (c_Model_copy ⟨(zm4 hm 81 rfl), (fun _ _ _ _ => rfl)⟩ ⟨(zm4 hm 83 rfl), (fun _ _ _ _ => rfl)⟩ h7) rfl rfl (Nat.le_of_ble_eq_true rfl) ⟨(Nat.le_of_ble_eq_true rfl), (Nat.le_of_ble_eq_true rfl)⟩ ⟨(Nat.le_of_ble_eq_true rfl), (Nat.le_of_ble_eq_true rfl)⟩ d_Model_correctedIn_56 ?_
        refine z_iconst C d_Model_correctedIn_59 zki_0 ?_
        refine z_istore_n C d_Model_correctedIn_60 rfl (by decide) ?_
        exact z_sub [1, 2, 3, 0] rfl ((w_Model_correctedIn C hm zK).1 _ _ _ _ _ hf)
      · have hf := iff_t hf h9
        refine z_iconst C d_Model_correctedIn_44 zki_m1 ?_
        cases hf
        exact z_iret C rfl (Nat.le_of_ble_eq_true rfl) (Nat.le_of_ble_eq_true rfl) d_Model_correctedIn_45
    · have hf := iff_t hf h13
      refine z_aload_n C d_Model_correctedIn_30 0 rfl rfl ?_
      refine z_iconst C d_Model_correctedIn_31 zki_2 ?_
      obtain ⟨r11, σ12, h10, hf⟩ := bd2_s hf
      refine z_cVi C kl_Model_62 rfl (c_Model_fail hm h10) (zm4 hm 80 rfl) rfl rfl rfl (Nat.le_of_ble_eq_true rfl) ⟨(Nat.le_of_ble_eq_true rfl), (Nat.le_of_ble_eq_true rfl)⟩ ⟨(Nat.le_of_ble_eq_true rfl), (Nat.le_of_ble_eq_true rfl)⟩ d_Model_correctedIn_32 ?_
      cases hf
      exact z_iret C rfl (Nat.le_of_ble_eq_true rfl) (Nat.le_of_ble_eq_true rfl) d_Model_correctedIn_35
  · have hf := iff_t hf h17
    refine z_aload_n C d_Model_correctedIn_13 0 rfl rfl ?_
    refine z_iconst C d_Model_correctedIn_14 zki_1 ?_
    obtain ⟨r15, σ16, h14, hf⟩ := bd2_s hf
    refine z_cVi C kl_Model_62 rfl (c_Model_fail hm h14) (zm4 hm 80 rfl) rfl rfl rfl (Nat.le_of_ble_eq_true rfl) ⟨(Nat.le_of_ble_eq_true rfl), (Nat.le_of_ble_eq_true rfl)⟩ ⟨(Nat.le_of_ble_eq_true rfl), (Nat.le_of_ble_eq_true rfl)⟩ d_Model_correctedIn_15 ?_
    cases hf
    exact z_iret C rfl (Nat.le_of_ble_eq_true rfl) (Nat.le_of_ble_eq_true rfl) d_Model_correctedIn_18
abbrev rm_Model_ahead : Room := { frames := 12, cells := 0, slots := 0, locals := 266 }
theorem d_Model_ahead_0 : decode b_Model_ahead 0 = .ok (.aload_n 0, 1) := by decide +kernel
theorem d_Model_ahead_1 : decode b_Model_ahead 1 = .ok (.iconst 0, 1) := by decide +kernel
theorem d_Model_ahead_2 : decode b_Model_ahead 2 = .ok (.putfield 48, 3) := by decide +kernel
theorem d_Model_ahead_5 : decode b_Model_ahead 5 = .ok (.iload_n 1, 1) := by decide +kernel
theorem d_Model_ahead_6 : decode b_Model_ahead 6 = .ok (.iconst 1, 1) := by decide +kernel
theorem d_Model_ahead_7 : decode b_Model_ahead 7 = .ok (.sipush 500, 3) := by decide +kernel
theorem d_Model_ahead_10 : decode b_Model_ahead 10 = .ok (.invokestatic 51, 3) := by decide +kernel
theorem d_Model_ahead_13 : decode b_Model_ahead 13 = .ok (.ifCond .eq 12, 3) := by decide +kernel
theorem d_Model_ahead_16 : decode b_Model_ahead 16 = .ok (.iload_n 2, 1) := by decide +kernel
theorem d_Model_ahead_17 : decode b_Model_ahead 17 = .ok (.iconst 0, 1) := by decide +kernel
theorem d_Model_ahead_18 : decode b_Model_ahead 18 = .ok (.iconst 3, 1) := by decide +kernel
theorem d_Model_ahead_19 : decode b_Model_ahead 19 = .ok (.invokestatic 51, 3) := by decide +kernel
theorem d_Model_ahead_22 : decode b_Model_ahead 22 = .ok (.ifCond .ne 9, 3) := by decide +kernel
theorem d_Model_ahead_25 : decode b_Model_ahead 25 = .ok (.aload_n 0, 1) := by decide +kernel
theorem d_Model_ahead_26 : decode b_Model_ahead 26 = .ok (.iconst 1, 1) := by decide +kernel
theorem d_Model_ahead_27 : decode b_Model_ahead 27 = .ok (.invokevirtual 62, 3) := by decide +kernel
theorem d_Model_ahead_30 : decode b_Model_ahead 30 = .ok (.ireturn, 1) := by decide +kernel
theorem d_Model_ahead_31 : decode b_Model_ahead 31 = .ok (.aload_n 0, 1) := by decide +kernel
theorem d_Model_ahead_32 : decode b_Model_ahead 32 = .ok (.getfield 7, 3) := by decide +kernel
theorem d_Model_ahead_35 : decode b_Model_ahead 35 = .ok (.iconst 0, 1) := by decide +kernel
theorem d_Model_ahead_36 : decode b_Model_ahead 36 = .ok (.aload_n 0, 1) := by decide +kernel
theorem d_Model_ahead_37 : decode b_Model_ahead 37 = .ok (.getfield 16, 3) := by decide +kernel
theorem d_Model_ahead_40 : decode b_Model_ahead 40 = .ok (.iconst 0, 1) := by decide +kernel
theorem d_Model_ahead_41 : decode b_Model_ahead 41 = .ok (.invokestatic 171, 3) := by decide +kernel
theorem d_Model_ahead_44 : decode b_Model_ahead 44 = .ok (.aload_n 0, 1) := by decide +kernel
theorem d_Model_ahead_45 : decode b_Model_ahead 45 = .ok (.getfield 7, 3) := by decide +kernel
theorem d_Model_ahead_48 : decode b_Model_ahead 48 = .ok (.bipush 10, 2) := by decide +kernel
theorem d_Model_ahead_50 : decode b_Model_ahead 50 = .ok (.iaload, 1) := by decide +kernel
theorem d_Model_ahead_51 : decode b_Model_ahead 51 = .ok (.istore_n 3, 1) := by decide +kernel
theorem d_Model_ahead_52 : decode b_Model_ahead 52 = .ok (.aload_n 0, 1) := by decide +kernel
theorem d_Model_ahead_53 : decode b_Model_ahead 53 = .ok (.iconst 0, 1) := by decide +kernel
theorem d_Model_ahead_54 : decode b_Model_ahead 54 = .ok (.putfield 316, 3) := by decide +kernel
theorem d_Model_ahead_57 : decode b_Model_ahead 57 = .ok (.aload_n 0, 1) := by decide +kernel
theorem d_Model_ahead_58 : decode b_Model_ahead 58 = .ok (.iconst 0, 1) := by decide +kernel
theorem d_Model_ahead_59 : decode b_Model_ahead 59 = .ok (.putfield 322, 3) := by decide +kernel
theorem d_Model_ahead_62 : decode b_Model_ahead 62 = .ok (.aload_n 0, 1) := by decide +kernel
theorem d_Model_ahead_63 : decode b_Model_ahead 63 = .ok (.iconst 0, 1) := by decide +kernel
theorem d_Model_ahead_64 : decode b_Model_ahead 64 = .ok (.putfield 319, 3) := by decide +kernel
theorem d_Model_ahead_67 : decode b_Model_ahead 67 = .ok (.aload_n 0, 1) := by decide +kernel
theorem d_Model_ahead_68 : decode b_Model_ahead 68 = .ok (.iload_n 1, 1) := by decide +kernel
theorem d_Model_ahead_69 : decode b_Model_ahead 69 = .ok (.invokevirtual 349, 3) := by decide +kernel
theorem d_Model_ahead_72 : decode b_Model_ahead 72 = .ok (.aload_n 0, 1) := by decide +kernel
theorem d_Model_ahead_73 : decode b_Model_ahead 73 = .ok (.getfield 7, 3) := by decide +kernel
theorem d_Model_ahead_76 : decode b_Model_ahead 76 = .ok (.bipush 10, 2) := by decide +kernel
theorem d_Model_ahead_78 : decode b_Model_ahead 78 = .ok (.iaload, 1) := by decide +kernel
theorem d_Model_ahead_79 : decode b_Model_ahead 79 = .ok (.iload_n 3, 1) := by decide +kernel
theorem d_Model_ahead_80 : decode b_Model_ahead 80 = .ok (.isub, 1) := by decide +kernel
theorem d_Model_ahead_81 : decode b_Model_ahead 81 = .ok (.istore_n 3, 1) := by decide +kernel
theorem d_Model_ahead_82 : decode b_Model_ahead 82 = .ok (.aload_n 0, 1) := by decide +kernel
theorem d_Model_ahead_83 : decode b_Model_ahead 83 = .ok (.getfield 16, 3) := by decide +kernel
theorem d_Model_ahead_86 : decode b_Model_ahead 86 = .ok (.iconst 0, 1) := by decide +kernel
theorem d_Model_ahead_87 : decode b_Model_ahead 87 = .ok (.aload_n 0, 1) := by decide +kernel
theorem d_Model_ahead_88 : decode b_Model_ahead 88 = .ok (.getfield 7, 3) := by decide +kernel
theorem d_Model_ahead_91 : decode b_Model_ahead 91 = .ok (.iconst 0, 1) := by decide +kernel
theorem d_Model_ahead_92 : decode b_Model_ahead 92 = .ok (.invokestatic 171, 3) := by decide +kernel
theorem d_Model_ahead_95 : decode b_Model_ahead 95 = .ok (.iload_n 2, 1) := by decide +kernel
theorem d_Model_ahead_96 : decode b_Model_ahead 96 = .ok (.ifCond .ne 7, 3) := by decide +kernel
theorem d_Model_ahead_99 : decode b_Model_ahead 99 = .ok (.iload_n 3, 1) := by decide +kernel
theorem d_Model_ahead_100 : decode b_Model_ahead 100 = .ok (.goto 31, 3) := by decide +kernel
theorem d_Model_ahead_103 : decode b_Model_ahead 103 = .ok (.iload_n 2, 1) := by decide +kernel
theorem d_Model_ahead_104 : decode b_Model_ahead 104 = .ok (.iconst 1, 1) := by decide +kernel
theorem d_Model_ahead_105 : decode b_Model_ahead 105 = .ok (.if_icmp .ne 10, 3) := by decide +kernel
theorem d_Model_ahead_108 : decode b_Model_ahead 108 = .ok (.aload_n 0, 1) := by decide +kernel
theorem d_Model_ahead_109 : decode b_Model_ahead 109 = .ok (.getfield 316, 3) := by decide +kernel
theorem d_Model_ahead_112 : decode b_Model_ahead 112 = .ok (.goto 19, 3) := by decide +kernel
theorem d_Model_ahead_115 : decode b_Model_ahead 115 = .ok (.iload_n 2, 1) := by decide +kernel
theorem d_Model_ahead_116 : decode b_Model_ahead 116 = .ok (.iconst 2, 1) := by decide +kernel
theorem d_Model_ahead_117 : decode b_Model_ahead 117 = .ok (.if_icmp .ne 10, 3) := by decide +kernel
theorem d_Model_ahead_120 : decode b_Model_ahead 120 = .ok (.aload_n 0, 1) := by decide +kernel
theorem d_Model_ahead_121 : decode b_Model_ahead 121 = .ok (.getfield 322, 3) := by decide +kernel
theorem d_Model_ahead_124 : decode b_Model_ahead 124 = .ok (.goto 7, 3) := by decide +kernel
theorem d_Model_ahead_127 : decode b_Model_ahead 127 = .ok (.aload_n 0, 1) := by decide +kernel
theorem d_Model_ahead_128 : decode b_Model_ahead 128 = .ok (.getfield 319, 3) := by decide +kernel
theorem d_Model_ahead_131 : decode b_Model_ahead 131 = .ok (.ireturn, 1) := by decide +kernel
def F_Model_ahead (a0 : Int32) (a1 : Int32) (σ : zSt) : Option (Int32 × zSt) :=
  (F_Model_isBetween a0 (1 : Int32) (500 : Int32) (zst σ 4 80 8 (0 : Int32))).bind fun r2 => if r2 = 0 then (bd2 (F_Model_fail (1 : Int32) (zst σ 4 80 8 (0 : Int32))) fun r4 σ5 => some (r4, σ5)) else ((F_Model_isBetween a1 (0 : Int32) (3 : Int32) (zst σ 4 80 8 (0 : Int32))).bind fun r7 => if r7 = 0 then (bd2 (F_Model_fail (1 : Int32) (zst σ 4 80 8 (0 : Int32))) fun r18 σ19 => some (r18, σ19)) else ((F_Model_copy 4 81 (0 : Int32) 4 83 (0 : Int32) (zst σ 4 80 8 (0 : Int32))).bind fun σ9 => (F_Model_passMinutes a0 (zst (zst (zst σ9 4 80 21 (0 : Int32)) 4 80 22 (0 : Int32)) 4 80 23 (0 : Int32))).bind fun σ11 => (F_Model_copy 4 83 (0 : Int32) 4 81 (0 : Int32) σ11).bind fun σ13 => if a1 = 0 then some (((σ11.1 4 81 10) - (σ9.1 4 81 10)), σ13) else (if a1 = (1 : Int32) then some ((σ13.1 4 80 21), σ13) else (if a1 = (2 : Int32) then some ((σ13.1 4 80 22), σ13) else some ((σ13.1 4 80 23), σ13)))))
set_option maxHeartbeats 4000000 in
set_option maxRecDepth 100000 in
theorem c_Model_ahead {l : Launch} {G : zLA} (hm : zml G) {a0 : Int32} {a1 : Int32} {σ : zSt} {r : Int32} {σ' : zSt} (hf : F_Model_ahead a0 a1 σ = some (r, σ')) : zM l G y_Model_ahead (zws y_Model_ahead b_Model_ahead 4 (some .int)) rm_Model_ahead [.ref (zad G 4 80), .int a0, .int a1] σ (some (.int r)) σ' := by
  refine z_ofM (own := "VillageWavesModel") (lv := [(0, .ref (zad G 4 80)), (1, .int a0), (2, .int a1)]) (by decide +kernel) rfl rfl (Nat.le_of_ble_eq_true rfl) (fun p e s m args below meth c C => ?_)
  rw [F_Model_ahead] at hf
  refine z_aload_n C d_Model_ahead_0 0 rfl rfl ?_
  refine z_iconst C d_Model_ahead_1 zki_0 ?_
  refine pf_Model_48 C (zm4 hm 80 rfl) rfl (Nat.le_of_ble_eq_true rfl) rfl d_Model_ahead_2 ?_
  refine z_iload_n C d_Model_ahead_5 1 rfl rfl ?_
  refine z_iconst C d_Model_ahead_6 zki_1 ?_
  refine z_sipush C d_Model_ahead_7 zks_500 ?_
  obtain ⟨r2, h1, hf⟩ := bd_s hf
  refine z_cSi C kl_Model_51 (c_Model_isBetween h1) rfl rfl (Nat.le_of_ble_eq_true rfl) ⟨(Nat.le_of_ble_eq_true rfl), (Nat.le_of_ble_eq_true rfl)⟩ ⟨(Nat.le_of_ble_eq_true rfl), (Nat.le_of_ble_eq_true rfl)⟩ d_Model_ahead_10 ?_
  refine z_if_eq (tgt := 25) C d_Model_ahead_13 rfl (fun h21 => ?_) (fun h21 => ?_)
  · have hf := iff_t hf h21
    refine z_aload_n C d_Model_ahead_25 0 rfl rfl ?_
    refine z_iconst C d_Model_ahead_26 zki_1 ?_
    obtain ⟨r4, σ5, h3, hf⟩ := bd2_s hf
    refine z_cVi C kl_Model_62 rfl (c_Model_fail hm h3) (zm4 hm 80 rfl) rfl rfl rfl (Nat.le_of_ble_eq_true rfl) ⟨(Nat.le_of_ble_eq_true rfl), (Nat.le_of_ble_eq_true rfl)⟩ ⟨(Nat.le_of_ble_eq_true rfl), (Nat.le_of_ble_eq_true rfl)⟩ d_Model_ahead_27 ?_
    cases hf
    exact z_iret C rfl (Nat.le_of_ble_eq_true rfl) (Nat.le_of_ble_eq_true rfl) d_Model_ahead_30
  · have hf := iff_f hf h21
    refine z_iload_n C d_Model_ahead_16 2 rfl rfl ?_
    refine z_iconst C d_Model_ahead_17 zki_0 ?_
    refine z_iconst C d_Model_ahead_18 zki_3 ?_
    obtain ⟨r7, h6, hf⟩ := bd_s hf
    refine z_cSi C kl_Model_51 (c_Model_isBetween h6) rfl rfl (Nat.le_of_ble_eq_true rfl) ⟨(Nat.le_of_ble_eq_true rfl), (Nat.le_of_ble_eq_true rfl)⟩ ⟨(Nat.le_of_ble_eq_true rfl), (Nat.le_of_ble_eq_true rfl)⟩ d_Model_ahead_19 ?_
    refine z_if_ne (tgt := 31) C d_Model_ahead_22 rfl (fun h20 => ?_) (fun h20 => ?_)
    · have hf := iff_f hf h20
      refine z_aload_n C d_Model_ahead_31 0 rfl rfl ?_
      refine gf_Model_7 C (zm4 hm 80 rfl) rfl rfl d_Model_ahead_32 ?_
      refine z_iconst C d_Model_ahead_35 zki_0 ?_
      refine z_aload_n C d_Model_ahead_36 0 rfl rfl ?_
      refine gf_Model_16 C (zm4 hm 80 rfl) rfl rfl d_Model_ahead_37 ?_
      refine z_iconst C d_Model_ahead_40 zki_0 ?_
      obtain ⟨σ9, h8, hf⟩ := bd_s hf
      refine z_cSv C kl_Model_171 (c_Model_copy ⟨(zm4 hm 81 rfl), (fun _ _ _ _ => rfl)⟩ ⟨(zm4 hm 83 rfl), (fun _ _ _ _ => rfl)⟩ h8) rfl rfl (Nat.le_of_ble_eq_true rfl) ⟨(Nat.le_of_ble_eq_true rfl), (Nat.le_of_ble_eq_true rfl)⟩ ⟨(Nat.le_of_ble_eq_true rfl), (Nat.le_of_ble_eq_true rfl)⟩ d_Model_ahead_41 ?_
      refine z_aload_n C d_Model_ahead_44 0 rfl rfl ?_
      refine gf_Model_7 C (zm4 hm 80 rfl) rfl rfl d_Model_ahead_45 ?_
      refine z_bipush C d_Model_ahead_48 zkb_10 ?_
      refine z_iald C (zm4 hm 81 rfl) rfl (inb_in (by decide)) zc_10 d_Model_ahead_50 ?_
      refine z_istore_n C d_Model_ahead_51 rfl (by decide) ?_
      refine z_aload_n C d_Model_ahead_52 1 rfl rfl ?_
      refine z_iconst C d_Model_ahead_53 zki_0 ?_
      refine pf_Model_316 C (zm4 hm 80 rfl) rfl (Nat.le_of_ble_eq_true rfl) rfl d_Model_ahead_54 ?_
      refine z_aload_n C d_Model_ahead_57 1 rfl rfl ?_
      refine z_iconst C d_Model_ahead_58 zki_0 ?_
      refine pf_Model_322 C (zm4 hm 80 rfl) rfl (Nat.le_of_ble_eq_true rfl) rfl d_Model_ahead_59 ?_
      refine z_aload_n C d_Model_ahead_62 1 rfl rfl ?_
      refine z_iconst C d_Model_ahead_63 zki_0 ?_
      refine pf_Model_319 C (zm4 hm 80 rfl) rfl (Nat.le_of_ble_eq_true rfl) rfl d_Model_ahead_64 ?_
      refine z_aload_n C d_Model_ahead_67 1 rfl rfl ?_
      refine z_iload_n C d_Model_ahead_68 2 rfl rfl ?_
      obtain ⟨σ11, h10, hf⟩ := bd_s hf
      refine z_cVv C kl_Model_349 rfl (c_Model_passMinutes hm h10) (zm4 hm 80 rfl) rfl rfl rfl (Nat.le_of_ble_eq_true rfl) ⟨(Nat.le_of_ble_eq_true rfl), (Nat.le_of_ble_eq_true rfl)⟩ ⟨(Nat.le_of_ble_eq_true rfl), (Nat.le_of_ble_eq_true rfl)⟩ d_Model_ahead_69 ?_
      refine z_aload_n C d_Model_ahead_72 1 rfl rfl ?_
      refine gf_Model_7 C (zm4 hm 80 rfl) rfl rfl d_Model_ahead_73 ?_
      refine z_bipush C d_Model_ahead_76 zkb_10 ?_
      refine z_iald C (zm4 hm 81 rfl) rfl (inb_in (by decide)) zc_10 d_Model_ahead_78 ?_
      refine z_iload_n C d_Model_ahead_79 0 rfl rfl ?_
      refine z_isub C d_Model_ahead_80 ?_
      refine z_istore_n C d_Model_ahead_81 rfl (by decide) ?_
      refine z_aload_n C d_Model_ahead_82 1 rfl rfl ?_
      refine gf_Model_16 C (zm4 hm 80 rfl) rfl rfl d_Model_ahead_83 ?_
      refine z_iconst C d_Model_ahead_86 zki_0 ?_
      refine z_aload_n C d_Model_ahead_87 1 rfl rfl ?_
      refine gf_Model_7 C (zm4 hm 80 rfl) rfl rfl d_Model_ahead_88 ?_
      refine z_iconst C d_Model_ahead_91 zki_0 ?_
      obtain ⟨σ13, h12, hf⟩ := bd_s hf
      refine z_cSv C kl_Model_171 (c_Model_copy ⟨(zm4 hm 83 rfl), (fun _ _ _ _ => rfl)⟩ ⟨(zm4 hm 81 rfl), (fun _ _ _ _ => rfl)⟩ h12) rfl rfl (Nat.le_of_ble_eq_true rfl) ⟨(Nat.le_of_ble_eq_true rfl), (Nat.le_of_ble_eq_true rfl)⟩ ⟨(Nat.le_of_ble_eq_true rfl), (Nat.le_of_ble_eq_true rfl)⟩ d_Model_ahead_92 ?_
      refine z_iload_n C d_Model_ahead_95 3 rfl rfl ?_
      refine z_if_ne (tgt := 103) C d_Model_ahead_96 rfl (fun h16 => ?_) (fun h16 => ?_)
      · have hf := iff_f hf h16
        refine z_iload_n C d_Model_ahead_103 3 rfl rfl ?_
        refine z_iconst C d_Model_ahead_104 zki_1 ?_
        refine z_icmp_ne (tgt := 115) C d_Model_ahead_105 rfl (fun h15 => ?_) (fun h15 => ?_)
        · have hf := iff_f hf h15
          refine z_iload_n C d_Model_ahead_115 3 rfl rfl ?_
          refine z_iconst C d_Model_ahead_116 zki_2 ?_
          refine z_icmp_ne (tgt := 127) C d_Model_ahead_117 rfl (fun h14 => ?_) (fun h14 => ?_)
          · have hf := iff_f hf h14
            refine z_aload_n C d_Model_ahead_127 1 rfl rfl ?_
            refine gf_Model_319 C (zm4 hm 80 rfl) rfl rfl d_Model_ahead_128 ?_
            cases hf
            exact z_iret C rfl (Nat.le_of_ble_eq_true rfl) (Nat.le_of_ble_eq_true rfl) d_Model_ahead_131
          · have hf := iff_t hf h14
            refine z_aload_n C d_Model_ahead_120 1 rfl rfl ?_
            refine gf_Model_322 C (zm4 hm 80 rfl) rfl rfl d_Model_ahead_121 ?_
            refine z_goto (tgt := 131) C d_Model_ahead_124 rfl ?_
            cases hf
            exact z_iret C rfl (Nat.le_of_ble_eq_true rfl) (Nat.le_of_ble_eq_true rfl) d_Model_ahead_131
        · have hf := iff_t hf h15
          refine z_aload_n C d_Model_ahead_108 1 rfl rfl ?_
          refine gf_Model_316 C (zm4 hm 80 rfl) rfl rfl d_Model_ahead_109 ?_
          refine z_goto (tgt := 131) C d_Model_ahead_112 rfl ?_
          cases hf
          exact z_iret C rfl (Nat.le_of_ble_eq_true rfl) (Nat.le_of_ble_eq_true rfl) d_Model_ahead_131
      · have hf := iff_t hf h16
        refine z_iload_n C d_Model_ahead_99 0 rfl rfl ?_
        refine z_goto (tgt := 131) C d_Model_ahead_100 rfl ?_
        cases hf
        exact z_iret C rfl (Nat.le_of_ble_eq_true rfl) (Nat.le_of_ble_eq_true rfl) d_Model_ahead_131
    · have hf := iff_t hf h20
      refine z_aload_n C d_Model_ahead_25 0 rfl rfl ?_
      refine z_iconst C d_Model_ahead_26 zki_1 ?_
      obtain ⟨r18, σ19, h17, hf⟩ := bd2_s hf
      refine z_cVi C kl_Model_62 rfl (c_Model_fail hm h17) (zm4 hm 80 rfl) rfl rfl rfl (Nat.le_of_ble_eq_true rfl) ⟨(Nat.le_of_ble_eq_true rfl), (Nat.le_of_ble_eq_true rfl)⟩ ⟨(Nat.le_of_ble_eq_true rfl), (Nat.le_of_ble_eq_true rfl)⟩ d_Model_ahead_27 ?_
      cases hf
      exact z_iret C rfl (Nat.le_of_ble_eq_true rfl) (Nat.le_of_ble_eq_true rfl) d_Model_ahead_30
abbrev rm_Model_bestAuthor : Room := { frames := 12, cells := 0, slots := 0, locals := 266 }
theorem d_Model_bestAuthor_0 : decode b_Model_bestAuthor 0 = .ok (.aload_n 0, 1) := by decide +kernel
theorem d_Model_bestAuthor_1 : decode b_Model_bestAuthor 1 = .ok (.iconst 0, 1) := by decide +kernel
theorem d_Model_bestAuthor_2 : decode b_Model_bestAuthor 2 = .ok (.putfield 48, 3) := by decide +kernel
theorem d_Model_bestAuthor_5 : decode b_Model_bestAuthor 5 = .ok (.iload_n 1, 1) := by decide +kernel
theorem d_Model_bestAuthor_6 : decode b_Model_bestAuthor 6 = .ok (.iconst 1, 1) := by decide +kernel
theorem d_Model_bestAuthor_7 : decode b_Model_bestAuthor 7 = .ok (.sipush 200, 3) := by decide +kernel
theorem d_Model_bestAuthor_10 : decode b_Model_bestAuthor 10 = .ok (.invokestatic 51, 3) := by decide +kernel
theorem d_Model_bestAuthor_13 : decode b_Model_bestAuthor 13 = .ok (.ifCond .ne 9, 3) := by decide +kernel
theorem d_Model_bestAuthor_16 : decode b_Model_bestAuthor 16 = .ok (.aload_n 0, 1) := by decide +kernel
theorem d_Model_bestAuthor_17 : decode b_Model_bestAuthor 17 = .ok (.iconst 1, 1) := by decide +kernel
theorem d_Model_bestAuthor_18 : decode b_Model_bestAuthor 18 = .ok (.invokevirtual 62, 3) := by decide +kernel
theorem d_Model_bestAuthor_21 : decode b_Model_bestAuthor 21 = .ok (.ireturn, 1) := by decide +kernel
theorem d_Model_bestAuthor_22 : decode b_Model_bestAuthor 22 = .ok (.iconst (-1), 1) := by decide +kernel
theorem d_Model_bestAuthor_23 : decode b_Model_bestAuthor 23 = .ok (.istore_n 2, 1) := by decide +kernel
theorem d_Model_bestAuthor_24 : decode b_Model_bestAuthor 24 = .ok (.iconst 0, 1) := by decide +kernel
theorem d_Model_bestAuthor_25 : decode b_Model_bestAuthor 25 = .ok (.istore_n 3, 1) := by decide +kernel
theorem d_Model_bestAuthor_26 : decode b_Model_bestAuthor 26 = .ok (.aload_n 0, 1) := by decide +kernel
theorem d_Model_bestAuthor_27 : decode b_Model_bestAuthor 27 = .ok (.getfield 7, 3) := by decide +kernel
theorem d_Model_bestAuthor_30 : decode b_Model_bestAuthor 30 = .ok (.iconst 0, 1) := by decide +kernel
theorem d_Model_bestAuthor_31 : decode b_Model_bestAuthor 31 = .ok (.aload_n 0, 1) := by decide +kernel
theorem d_Model_bestAuthor_32 : decode b_Model_bestAuthor 32 = .ok (.getfield 16, 3) := by decide +kernel
theorem d_Model_bestAuthor_35 : decode b_Model_bestAuthor 35 = .ok (.iconst 0, 1) := by decide +kernel
theorem d_Model_bestAuthor_36 : decode b_Model_bestAuthor 36 = .ok (.invokestatic 171, 3) := by decide +kernel
theorem d_Model_bestAuthor_39 : decode b_Model_bestAuthor 39 = .ok (.iconst 0, 1) := by decide +kernel
theorem d_Model_bestAuthor_40 : decode b_Model_bestAuthor 40 = .ok (.istore 4, 2) := by decide +kernel
theorem d_Model_bestAuthor_42 : decode b_Model_bestAuthor 42 = .ok (.iload 4, 2) := by decide +kernel
theorem d_Model_bestAuthor_44 : decode b_Model_bestAuthor 44 = .ok (.aload_n 0, 1) := by decide +kernel
theorem d_Model_bestAuthor_45 : decode b_Model_bestAuthor 45 = .ok (.getfield 7, 3) := by decide +kernel
theorem d_Model_bestAuthor_48 : decode b_Model_bestAuthor 48 = .ok (.bipush 6, 2) := by decide +kernel
theorem d_Model_bestAuthor_50 : decode b_Model_bestAuthor 50 = .ok (.iaload, 1) := by decide +kernel
theorem d_Model_bestAuthor_51 : decode b_Model_bestAuthor 51 = .ok (.if_icmp .ge 72, 3) := by decide +kernel
theorem d_Model_bestAuthor_54 : decode b_Model_bestAuthor 54 = .ok (.aload_n 0, 1) := by decide +kernel
theorem d_Model_bestAuthor_55 : decode b_Model_bestAuthor 55 = .ok (.getfield 7, 3) := by decide +kernel
theorem d_Model_bestAuthor_58 : decode b_Model_bestAuthor 58 = .ok (.bipush 7, 2) := by decide +kernel
theorem d_Model_bestAuthor_60 : decode b_Model_bestAuthor 60 = .ok (.iaload, 1) := by decide +kernel
theorem d_Model_bestAuthor_61 : decode b_Model_bestAuthor 61 = .ok (.bipush 20, 2) := by decide +kernel
theorem d_Model_bestAuthor_63 : decode b_Model_bestAuthor 63 = .ok (.if_icmp .ge 60, 3) := by decide +kernel
theorem d_Model_bestAuthor_66 : decode b_Model_bestAuthor 66 = .ok (.aload_n 0, 1) := by decide +kernel
theorem d_Model_bestAuthor_67 : decode b_Model_bestAuthor 67 = .ok (.iload 4, 2) := by decide +kernel
theorem d_Model_bestAuthor_69 : decode b_Model_bestAuthor 69 = .ok (.iconst 0, 1) := by decide +kernel
theorem d_Model_bestAuthor_70 : decode b_Model_bestAuthor 70 = .ok (.invokevirtual 147, 3) := by decide +kernel
theorem d_Model_bestAuthor_73 : decode b_Model_bestAuthor 73 = .ok (.istore 5, 2) := by decide +kernel
theorem d_Model_bestAuthor_75 : decode b_Model_bestAuthor 75 = .ok (.aload_n 0, 1) := by decide +kernel
theorem d_Model_bestAuthor_76 : decode b_Model_bestAuthor 76 = .ok (.iload_n 1, 1) := by decide +kernel
theorem d_Model_bestAuthor_77 : decode b_Model_bestAuthor 77 = .ok (.invokevirtual 349, 3) := by decide +kernel
theorem d_Model_bestAuthor_80 : decode b_Model_bestAuthor 80 = .ok (.aload_n 0, 1) := by decide +kernel
theorem d_Model_bestAuthor_81 : decode b_Model_bestAuthor 81 = .ok (.iload 5, 2) := by decide +kernel
theorem d_Model_bestAuthor_83 : decode b_Model_bestAuthor 83 = .ok (.iconst 0, 1) := by decide +kernel
theorem d_Model_bestAuthor_84 : decode b_Model_bestAuthor 84 = .ok (.invokevirtual 277, 3) := by decide +kernel
theorem d_Model_bestAuthor_87 : decode b_Model_bestAuthor 87 = .ok (.invokestatic 292, 3) := by decide +kernel
theorem d_Model_bestAuthor_90 : decode b_Model_bestAuthor 90 = .ok (.istore 6, 2) := by decide +kernel
theorem d_Model_bestAuthor_92 : decode b_Model_bestAuthor 92 = .ok (.aload_n 0, 1) := by decide +kernel
theorem d_Model_bestAuthor_93 : decode b_Model_bestAuthor 93 = .ok (.getfield 16, 3) := by decide +kernel
theorem d_Model_bestAuthor_96 : decode b_Model_bestAuthor 96 = .ok (.iconst 0, 1) := by decide +kernel
theorem d_Model_bestAuthor_97 : decode b_Model_bestAuthor 97 = .ok (.aload_n 0, 1) := by decide +kernel
theorem d_Model_bestAuthor_98 : decode b_Model_bestAuthor 98 = .ok (.getfield 7, 3) := by decide +kernel
theorem d_Model_bestAuthor_101 : decode b_Model_bestAuthor 101 = .ok (.iconst 0, 1) := by decide +kernel
theorem d_Model_bestAuthor_102 : decode b_Model_bestAuthor 102 = .ok (.invokestatic 171, 3) := by decide +kernel
theorem d_Model_bestAuthor_105 : decode b_Model_bestAuthor 105 = .ok (.iload 6, 2) := by decide +kernel
theorem d_Model_bestAuthor_107 : decode b_Model_bestAuthor 107 = .ok (.iload_n 3, 1) := by decide +kernel
theorem d_Model_bestAuthor_108 : decode b_Model_bestAuthor 108 = .ok (.if_icmp .le 9, 3) := by decide +kernel
theorem d_Model_bestAuthor_111 : decode b_Model_bestAuthor 111 = .ok (.iload 4, 2) := by decide +kernel
theorem d_Model_bestAuthor_113 : decode b_Model_bestAuthor 113 = .ok (.istore_n 2, 1) := by decide +kernel
theorem d_Model_bestAuthor_114 : decode b_Model_bestAuthor 114 = .ok (.iload 6, 2) := by decide +kernel
theorem d_Model_bestAuthor_116 : decode b_Model_bestAuthor 116 = .ok (.istore_n 3, 1) := by decide +kernel
theorem d_Model_bestAuthor_117 : decode b_Model_bestAuthor 117 = .ok (.iinc 4 1, 3) := by decide +kernel
theorem d_Model_bestAuthor_120 : decode b_Model_bestAuthor 120 = .ok (.goto (-78), 3) := by decide +kernel
theorem d_Model_bestAuthor_123 : decode b_Model_bestAuthor 123 = .ok (.iload_n 2, 1) := by decide +kernel
theorem d_Model_bestAuthor_124 : decode b_Model_bestAuthor 124 = .ok (.ireturn, 1) := by decide +kernel
def L_Model_bestAuthor : Nat → Nat → Int32 → Int32 → Int32 → Int32 → zSt → Option (Int32 × zSt)
  | 0, _, _, _, _, _, _ => none
  | n + 1, 0, x1, x2, x3, x4, σ => if (σ.1 4 81 6) ≤ x4 then some (x2, σ) else (if (20 : Int32) ≤ (σ.1 4 81 7) then some (x2, σ) else (bd2 (F_Model_appendNews x4 (0 : Int32) σ) fun r10 σ11 => (F_Model_passMinutes x1 σ11).bind fun σ13 => (F_Model_housesOf r10 (0 : Int32) σ13).bind fun r15 => (F_Model_size r15 σ13).bind fun r17 => (F_Model_copy 4 83 (0 : Int32) 4 81 (0 : Int32) σ13).bind fun σ19 => if r17 ≤ x3 then L_Model_bestAuthor n 0 x1 x2 x3 (x4 + (1 : Int32)) σ19 else L_Model_bestAuthor n 0 x1 x4 r17 (x4 + (1 : Int32)) σ19))
  | _ + 1, _, _, _, _, _, _ => none
theorem e_Model_bestAuthor_0 (n : Nat) (x1 : Int32) (x2 : Int32) (x3 : Int32) (x4 : Int32) (σ : zSt) : L_Model_bestAuthor (n + 1) 0 x1 x2 x3 x4 σ = (if (σ.1 4 81 6) ≤ x4 then some (x2, σ) else (if (20 : Int32) ≤ (σ.1 4 81 7) then some (x2, σ) else (bd2 (F_Model_appendNews x4 (0 : Int32) σ) fun r10 σ11 => (F_Model_passMinutes x1 σ11).bind fun σ13 => (F_Model_housesOf r10 (0 : Int32) σ13).bind fun r15 => (F_Model_size r15 σ13).bind fun r17 => (F_Model_copy 4 83 (0 : Int32) 4 81 (0 : Int32) σ13).bind fun σ19 => if r17 ≤ x3 then L_Model_bestAuthor n 0 x1 x2 x3 (x4 + (1 : Int32)) σ19 else L_Model_bestAuthor n 0 x1 x4 r17 (x4 + (1 : Int32)) σ19))) := rfl
set_option maxHeartbeats 4000000 in
set_option maxRecDepth 100000 in
theorem w_Model_bestAuthor {l : Launch} {G : zLA} {p : Program} {e : Env} {s : State} {m : MethodId} {args : Array Value} {below : List Frame} {meth : Method} {c : Code} (C : zCx G p s m args meth c "VillageWavesModel" b_Model_bestAuthor 7 (some .int)) (hm : zml G) {r : Int32} {σ' : zSt} : ∀ n : Nat, (∀ (x1 : Int32) (x2 : Int32) (x3 : Int32) (x4 : Int32) (σ : zSt), L_Model_bestAuthor n 0 x1 x2 x3 x4 σ = some (r, σ') → zWV G p l e rm_Model_bestAuthor s m args below meth c 7 0 0 (zQ G below args s rm_Model_bestAuthor (some (.int r)) σ') 42 [(0, .ref (zad G 4 80)), (1, .int x1), (2, .int x2), (3, .int x3), (4, .int x4)] [] σ) := by
  intro n
  induction n with
  | zero => exact fun _ _ _ _ _ hf => (by cases hf)
  | succ n ih =>
    refine ?_
    · intro x1 x2 x3 x4 σ hf
      rw [e_Model_bestAuthor_0] at hf
      refine z_iload C d_Model_bestAuthor_42 4 rfl ?_
      refine z_aload_n C d_Model_bestAuthor_44 0 rfl rfl ?_
      refine gf_Model_7 C (zm4 hm 80 rfl) rfl rfl d_Model_bestAuthor_45 ?_
      refine z_bipush C d_Model_bestAuthor_48 zkb_6 ?_
      refine z_iald C (zm4 hm 81 rfl) rfl (inb_in (by decide)) zc_6 d_Model_bestAuthor_50 ?_
      refine z_icmp_ge (tgt := 123) C d_Model_bestAuthor_51 rfl (fun h22 => ?_) (fun h22 => ?_)
      · have hf := iff_t hf h22
        refine z_iload_n C d_Model_bestAuthor_123 2 rfl rfl ?_
        cases hf
        exact z_iret C rfl (Nat.le_of_ble_eq_true rfl) (Nat.le_of_ble_eq_true rfl) d_Model_bestAuthor_124
      · have hf := iff_f hf h22
        refine z_aload_n C d_Model_bestAuthor_54 0 rfl rfl ?_
        refine gf_Model_7 C (zm4 hm 80 rfl) rfl rfl d_Model_bestAuthor_55 ?_
        refine z_bipush C d_Model_bestAuthor_58 zkb_7 ?_
        refine z_iald C (zm4 hm 81 rfl) rfl (inb_in (by decide)) zc_7 d_Model_bestAuthor_60 ?_
        refine z_bipush C d_Model_bestAuthor_61 zkb_20 ?_
        refine z_icmp_ge (tgt := 123) C d_Model_bestAuthor_63 rfl (fun h21 => ?_) (fun h21 => ?_)
        · have hf := iff_t hf h21
          refine z_iload_n C d_Model_bestAuthor_123 2 rfl rfl ?_
          cases hf
          exact z_iret C rfl (Nat.le_of_ble_eq_true rfl) (Nat.le_of_ble_eq_true rfl) d_Model_bestAuthor_124
        · have hf := iff_f hf h21
          refine z_aload_n C d_Model_bestAuthor_66 0 rfl rfl ?_
          refine z_iload C d_Model_bestAuthor_67 4 rfl ?_
          refine z_iconst C d_Model_bestAuthor_69 zki_0 ?_
          obtain ⟨r10, σ11, h9, hf⟩ := bd2_s hf
          refine z_cVi C kl_Model_147 rfl (c_Model_appendNews hm h9) (zm4 hm 80 rfl) rfl rfl rfl (Nat.le_of_ble_eq_true rfl) ⟨(Nat.le_of_ble_eq_true rfl), (Nat.le_of_ble_eq_true rfl)⟩ ⟨(Nat.le_of_ble_eq_true rfl), (Nat.le_of_ble_eq_true rfl)⟩ d_Model_bestAuthor_70 ?_
          refine z_istore C d_Model_bestAuthor_73 (by decide) ?_
          refine z_aload_n C d_Model_bestAuthor_75 1 rfl rfl ?_
          refine z_iload_n C d_Model_bestAuthor_76 2 rfl rfl ?_
          obtain ⟨σ13, h12, hf⟩ := bd_s hf
          refine z_cVv C kl_Model_349 rfl (c_Model_passMinutes hm h12) (zm4 hm 80 rfl) rfl rfl rfl (Nat.le_of_ble_eq_true rfl) ⟨(Nat.le_of_ble_eq_true rfl), (Nat.le_of_ble_eq_true rfl)⟩ ⟨(Nat.le_of_ble_eq_true rfl), (Nat.le_of_ble_eq_true rfl)⟩ d_Model_bestAuthor_77 ?_
          refine z_aload_n C d_Model_bestAuthor_80 1 rfl rfl ?_
          refine z_iload C d_Model_bestAuthor_81 0 rfl ?_
          refine z_iconst C d_Model_bestAuthor_83 zki_0 ?_
          obtain ⟨r15, h14, hf⟩ := bd_s hf
          refine z_cVi C kl_Model_277 rfl (c_Model_housesOf hm h14) (zm4 hm 80 rfl) rfl rfl rfl (Nat.le_of_ble_eq_true rfl) ⟨(Nat.le_of_ble_eq_true rfl), (Nat.le_of_ble_eq_true rfl)⟩ ⟨(Nat.le_of_ble_eq_true rfl), (Nat.le_of_ble_eq_true rfl)⟩ d_Model_bestAuthor_84 ?_
          obtain ⟨r17, h16, hf⟩ := bd_s hf
          refine z_cSi C kl_Model_292 (c_Model_size h16) rfl rfl (Nat.le_of_ble_eq_true rfl) ⟨(Nat.le_of_ble_eq_true rfl), (Nat.le_of_ble_eq_true rfl)⟩ ⟨(Nat.le_of_ble_eq_true rfl), (Nat.le_of_ble_eq_true rfl)⟩ d_Model_bestAuthor_87 ?_
          refine z_istore C d_Model_bestAuthor_90 (by decide) ?_
          refine z_aload_n C d_Model_bestAuthor_92 2 rfl rfl ?_
          refine gf_Model_16 C (zm4 hm 80 rfl) rfl rfl d_Model_bestAuthor_93 ?_
          refine z_iconst C d_Model_bestAuthor_96 zki_0 ?_
          refine z_aload_n C d_Model_bestAuthor_97 2 rfl rfl ?_
          refine gf_Model_7 C (zm4 hm 80 rfl) rfl rfl d_Model_bestAuthor_98 ?_
          refine z_iconst C d_Model_bestAuthor_101 zki_0 ?_
          obtain ⟨σ19, h18, hf⟩ := bd_s hf
          refine z_cSv C kl_Model_171 (c_Model_copy ⟨(zm4 hm 83 rfl), (fun _ _ _ _ => rfl)⟩ ⟨(zm4 hm 81 rfl), (fun _ _ _ _ => rfl)⟩ h18) rfl rfl (Nat.le_of_ble_eq_true rfl) ⟨(Nat.le_of_ble_eq_true rfl), (Nat.le_of_ble_eq_true rfl)⟩ ⟨(Nat.le_of_ble_eq_true rfl), (Nat.le_of_ble_eq_true rfl)⟩ d_Model_bestAuthor_102 ?_
          refine z_iload C d_Model_bestAuthor_105 0 rfl ?_
          refine z_iload_n C d_Model_bestAuthor_107 5 rfl rfl ?_
          refine z_icmp_le (tgt := 117) C d_Model_bestAuthor_108 rfl (fun h20 => ?_) (fun h20 => ?_)
          · have hf := iff_t hf h20
            refine z_iinc C d_Model_bestAuthor_117 6 rfl zki_1 (by decide) ?_
            refine z_goto (tgt := 42) C d_Model_bestAuthor_120 rfl ?_
            exact z_sub [3, 4, 5, 6, 0] rfl (ih _ _ _ _ _ hf)
          · have hf := iff_f hf h20
            refine z_iload C d_Model_bestAuthor_111 6 rfl ?_
            refine z_istore_n C d_Model_bestAuthor_113 rfl (by decide) ?_
            refine z_iload C d_Model_bestAuthor_114 1 rfl ?_
            refine z_istore_n C d_Model_bestAuthor_116 rfl (by decide) ?_
            refine z_iinc C d_Model_bestAuthor_117 6 rfl zki_1 (by decide) ?_
            refine z_goto (tgt := 42) C d_Model_bestAuthor_120 rfl ?_
            exact z_sub [5, 6, 2, 1, 0] rfl (ih _ _ _ _ _ hf)
def F_Model_bestAuthor (a0 : Int32) (σ : zSt) : Option (Int32 × zSt) :=
  (F_Model_isBetween a0 (1 : Int32) (200 : Int32) (zst σ 4 80 8 (0 : Int32))).bind fun r2 => if r2 = 0 then (bd2 (F_Model_fail (1 : Int32) (zst σ 4 80 8 (0 : Int32))) fun r6 σ7 => some (r6, σ7)) else ((F_Model_copy 4 81 (0 : Int32) 4 83 (0 : Int32) (zst σ 4 80 8 (0 : Int32))).bind fun σ4 => L_Model_bestAuthor zK 0 a0 (-1 : Int32) (0 : Int32) (0 : Int32) σ4)
set_option maxHeartbeats 4000000 in
set_option maxRecDepth 100000 in
theorem c_Model_bestAuthor {l : Launch} {G : zLA} (hm : zml G) {a0 : Int32} {σ : zSt} {r : Int32} {σ' : zSt} (hf : F_Model_bestAuthor a0 σ = some (r, σ')) : zM l G y_Model_bestAuthor (zws y_Model_bestAuthor b_Model_bestAuthor 7 (some .int)) rm_Model_bestAuthor [.ref (zad G 4 80), .int a0] σ (some (.int r)) σ' := by
  refine z_ofM (own := "VillageWavesModel") (lv := [(0, .ref (zad G 4 80)), (1, .int a0)]) (by decide +kernel) rfl rfl (Nat.le_of_ble_eq_true rfl) (fun p e s m args below meth c C => ?_)
  rw [F_Model_bestAuthor] at hf
  refine z_aload_n C d_Model_bestAuthor_0 0 rfl rfl ?_
  refine z_iconst C d_Model_bestAuthor_1 zki_0 ?_
  refine pf_Model_48 C (zm4 hm 80 rfl) rfl (Nat.le_of_ble_eq_true rfl) rfl d_Model_bestAuthor_2 ?_
  refine z_iload_n C d_Model_bestAuthor_5 1 rfl rfl ?_
  refine z_iconst C d_Model_bestAuthor_6 zki_1 ?_
  refine z_sipush C d_Model_bestAuthor_7 zks_200 ?_
  obtain ⟨r2, h1, hf⟩ := bd_s hf
  refine z_cSi C kl_Model_51 (c_Model_isBetween h1) rfl rfl (Nat.le_of_ble_eq_true rfl) ⟨(Nat.le_of_ble_eq_true rfl), (Nat.le_of_ble_eq_true rfl)⟩ ⟨(Nat.le_of_ble_eq_true rfl), (Nat.le_of_ble_eq_true rfl)⟩ d_Model_bestAuthor_10 ?_
  refine z_if_ne (tgt := 22) C d_Model_bestAuthor_13 rfl (fun h8 => ?_) (fun h8 => ?_)
  · have hf := iff_f hf h8
    refine z_iconst C d_Model_bestAuthor_22 zki_m1 ?_
    refine z_istore_n C d_Model_bestAuthor_23 rfl (by decide) ?_
    refine z_iconst C d_Model_bestAuthor_24 zki_0 ?_
    refine z_istore_n C d_Model_bestAuthor_25 rfl (by decide) ?_
    refine z_aload_n C d_Model_bestAuthor_26 2 rfl rfl ?_
    refine gf_Model_7 C (zm4 hm 80 rfl) rfl rfl d_Model_bestAuthor_27 ?_
    refine z_iconst C d_Model_bestAuthor_30 zki_0 ?_
    refine z_aload_n C d_Model_bestAuthor_31 2 rfl rfl ?_
    refine gf_Model_16 C (zm4 hm 80 rfl) rfl rfl d_Model_bestAuthor_32 ?_
    refine z_iconst C d_Model_bestAuthor_35 zki_0 ?_
    obtain ⟨σ4, h3, hf⟩ := bd_s hf
    refine z_cSv C kl_Model_171 (c_Model_copy ⟨(zm4 hm 81 rfl), (fun _ _ _ _ => rfl)⟩ ⟨(zm4 hm 83 rfl), (fun _ _ _ _ => rfl)⟩ h3) rfl rfl (Nat.le_of_ble_eq_true rfl) ⟨(Nat.le_of_ble_eq_true rfl), (Nat.le_of_ble_eq_true rfl)⟩ ⟨(Nat.le_of_ble_eq_true rfl), (Nat.le_of_ble_eq_true rfl)⟩ d_Model_bestAuthor_36 ?_
    refine z_iconst C d_Model_bestAuthor_39 zki_0 ?_
    refine z_istore C d_Model_bestAuthor_40 (by decide) ?_
    exact z_sub [3, 4, 2, 1, 0] rfl ((w_Model_bestAuthor C hm zK) _ _ _ _ _ hf)
  · have hf := iff_t hf h8
    refine z_aload_n C d_Model_bestAuthor_16 0 rfl rfl ?_
    refine z_iconst C d_Model_bestAuthor_17 zki_1 ?_
    obtain ⟨r6, σ7, h5, hf⟩ := bd2_s hf
    refine z_cVi C kl_Model_62 rfl (c_Model_fail hm h5) (zm4 hm 80 rfl) rfl rfl rfl (Nat.le_of_ble_eq_true rfl) ⟨(Nat.le_of_ble_eq_true rfl), (Nat.le_of_ble_eq_true rfl)⟩ ⟨(Nat.le_of_ble_eq_true rfl), (Nat.le_of_ble_eq_true rfl)⟩ d_Model_bestAuthor_18 ?_
    cases hf
    exact z_iret C rfl (Nat.le_of_ble_eq_true rfl) (Nat.le_of_ble_eq_true rfl) d_Model_bestAuthor_21
abbrev rm_Model_save : Room := { frames := 1, cells := 0, slots := 0, locals := 24 }
theorem d_Model_save_0 : decode b_Model_save 0 = .ok (.aload_n 0, 1) := by decide +kernel
theorem d_Model_save_1 : decode b_Model_save 1 = .ok (.iload_n 1, 1) := by decide +kernel
theorem d_Model_save_2 : decode b_Model_save 2 = .ok (.iconst 0, 1) := by decide +kernel
theorem d_Model_save_3 : decode b_Model_save 3 = .ok (.iconst 1, 1) := by decide +kernel
theorem d_Model_save_4 : decode b_Model_save 4 = .ok (.invokestatic 51, 3) := by decide +kernel
theorem d_Model_save_7 : decode b_Model_save 7 = .ok (.ifCond .eq 7, 3) := by decide +kernel
theorem d_Model_save_10 : decode b_Model_save 10 = .ok (.iconst 0, 1) := by decide +kernel
theorem d_Model_save_11 : decode b_Model_save 11 = .ok (.goto 4, 3) := by decide +kernel
theorem d_Model_save_14 : decode b_Model_save 14 = .ok (.iconst 1, 1) := by decide +kernel
theorem d_Model_save_15 : decode b_Model_save 15 = .ok (.putfield 48, 3) := by decide +kernel
theorem d_Model_save_18 : decode b_Model_save 18 = .ok (.aload_n 0, 1) := by decide +kernel
theorem d_Model_save_19 : decode b_Model_save 19 = .ok (.getfield 48, 3) := by decide +kernel
theorem d_Model_save_22 : decode b_Model_save 22 = .ok (.ifCond .ne 27, 3) := by decide +kernel
theorem d_Model_save_25 : decode b_Model_save 25 = .ok (.aload_n 0, 1) := by decide +kernel
theorem d_Model_save_26 : decode b_Model_save 26 = .ok (.getfield 7, 3) := by decide +kernel
theorem d_Model_save_29 : decode b_Model_save 29 = .ok (.iconst 0, 1) := by decide +kernel
theorem d_Model_save_30 : decode b_Model_save 30 = .ok (.aload_n 0, 1) := by decide +kernel
theorem d_Model_save_31 : decode b_Model_save 31 = .ok (.getfield 19, 3) := by decide +kernel
theorem d_Model_save_34 : decode b_Model_save 34 = .ok (.sipush 2592, 3) := by decide +kernel
theorem d_Model_save_37 : decode b_Model_save 37 = .ok (.iload_n 1, 1) := by decide +kernel
theorem d_Model_save_38 : decode b_Model_save 38 = .ok (.imul, 1) := by decide +kernel
theorem d_Model_save_39 : decode b_Model_save 39 = .ok (.invokestatic 171, 3) := by decide +kernel
theorem d_Model_save_42 : decode b_Model_save 42 = .ok (.aload_n 0, 1) := by decide +kernel
theorem d_Model_save_43 : decode b_Model_save 43 = .ok (.getfield 22, 3) := by decide +kernel
theorem d_Model_save_46 : decode b_Model_save 46 = .ok (.iload_n 1, 1) := by decide +kernel
theorem d_Model_save_47 : decode b_Model_save 47 = .ok (.iconst 1, 1) := by decide +kernel
theorem d_Model_save_48 : decode b_Model_save 48 = .ok (.bastore, 1) := by decide +kernel
theorem d_Model_save_49 : decode b_Model_save 49 = .ok (.return_, 1) := by decide +kernel
def B_Model_save_15 (x1 : Int32) (y1 : Int32) (σ : zSt) : Option (zSt) :=
  if ((zst σ 4 80 8 y1).1 4 80 8) = 0 then ((F_Model_copy 4 81 (0 : Int32) 4 84 ((2592 : Int32) * x1) (zst σ 4 80 8 y1)).bind fun σ5 => if inb x1 2 = true then some (zst σ5 4 85 x1.toNatClampNeg (vp_nar .boolean (1 : Int32))) else none) else some (zst σ 4 80 8 y1)
set_option maxHeartbeats 4000000 in
set_option maxRecDepth 100000 in
theorem w_Model_save_15 {l : Launch} {G : zLA} {p : Program} {e : Env} {s : State} {m : MethodId} {args : Array Value} {below : List Frame} {meth : Method} {c : Code} (C : zCx G p s m args meth c "VillageWavesModel" b_Model_save 2 none) (hm : zml G) {x1 : Int32} {y1 : Int32} {σ : zSt} {σ' : zSt} (hf : B_Model_save_15 x1 y1 σ = some σ') : zWV G p l e rm_Model_save s m args below meth c 2 0 0 (zQ G below args s rm_Model_save none σ') 15 [(0, .ref (zad G 4 80)), (1, .int x1)] [.int y1, .ref (zad G 4 80)] σ := by
  rw [B_Model_save_15] at hf
  refine pf_Model_48 C (zm4 hm 80 rfl) rfl (Nat.le_of_ble_eq_true rfl) rfl d_Model_save_15 ?_
  refine z_aload_n C d_Model_save_18 0 rfl rfl ?_
  refine gf_Model_48 C (zm4 hm 80 rfl) rfl rfl d_Model_save_19 ?_
  refine z_if_ne (tgt := 49) C d_Model_save_22 rfl (fun h7 => ?_) (fun h7 => ?_)
  · have hf := iff_f hf h7
    cases hf
    exact z_vret C rfl (Nat.le_of_ble_eq_true rfl) (Nat.le_of_ble_eq_true rfl) d_Model_save_49
  · have hf := iff_t hf h7
    refine z_aload_n C d_Model_save_25 0 rfl rfl ?_
    refine gf_Model_7 C (zm4 hm 80 rfl) rfl rfl d_Model_save_26 ?_
    refine z_iconst C d_Model_save_29 zki_0 ?_
    refine z_aload_n C d_Model_save_30 0 rfl rfl ?_
    refine gf_Model_19 C (zm4 hm 80 rfl) rfl rfl d_Model_save_31 ?_
    refine z_sipush C d_Model_save_34 zks_2592 ?_
    refine z_iload_n C d_Model_save_37 1 rfl rfl ?_
    refine z_imul C d_Model_save_38 ?_
    obtain ⟨σ5, h4, hf⟩ := bd_s hf
    refine z_cSv C kl_Model_171 (c_Model_copy ⟨(zm4 hm 81 rfl), (fun _ _ _ _ => rfl)⟩ ⟨(zm4 hm 84 rfl), (fun _ _ _ _ => rfl)⟩ h4) rfl rfl (Nat.le_of_ble_eq_true rfl) ⟨(Nat.le_of_ble_eq_true rfl), (Nat.le_of_ble_eq_true rfl)⟩ ⟨(Nat.le_of_ble_eq_true rfl), (Nat.le_of_ble_eq_true rfl)⟩ d_Model_save_39 ?_
    refine z_aload_n C d_Model_save_42 0 rfl rfl ?_
    refine gf_Model_22 C (zm4 hm 80 rfl) rfl rfl d_Model_save_43 ?_
    refine z_iload_n C d_Model_save_46 1 rfl rfl ?_
    refine z_iconst C d_Model_save_47 zki_1 ?_
    obtain ⟨h6, hf⟩ := iff_g hf
    refine z_zast C (zm4 hm 85 rfl) (fun _ _ _ => rfl) (inb_in h6) rfl d_Model_save_48 ?_
    cases hf
    exact z_vret C rfl (Nat.le_of_ble_eq_true rfl) (Nat.le_of_ble_eq_true rfl) d_Model_save_49
def F_Model_save (a0 : Int32) (σ : zSt) : Option (zSt) :=
  (F_Model_isBetween a0 (0 : Int32) (1 : Int32) σ).bind fun r2 => if r2 = 0 then B_Model_save_15 a0 (1 : Int32) σ else B_Model_save_15 a0 (0 : Int32) σ
set_option maxHeartbeats 4000000 in
set_option maxRecDepth 100000 in
theorem c_Model_save {l : Launch} {G : zLA} (hm : zml G) {a0 : Int32} {σ : zSt} {σ' : zSt} (hf : F_Model_save a0 σ = some σ') : zM l G y_Model_save (zws y_Model_save b_Model_save 2 none) rm_Model_save [.ref (zad G 4 80), .int a0] σ none σ' := by
  refine z_ofM (own := "VillageWavesModel") (lv := [(0, .ref (zad G 4 80)), (1, .int a0)]) (by decide +kernel) rfl rfl (Nat.le_of_ble_eq_true rfl) (fun p e s m args below meth c C => ?_)
  rw [F_Model_save] at hf
  refine z_aload_n C d_Model_save_0 0 rfl rfl ?_
  refine z_iload_n C d_Model_save_1 1 rfl rfl ?_
  refine z_iconst C d_Model_save_2 zki_0 ?_
  refine z_iconst C d_Model_save_3 zki_1 ?_
  obtain ⟨r2, h1, hf⟩ := bd_s hf
  refine z_cSi C kl_Model_51 (c_Model_isBetween h1) rfl rfl (Nat.le_of_ble_eq_true rfl) ⟨(Nat.le_of_ble_eq_true rfl), (Nat.le_of_ble_eq_true rfl)⟩ ⟨(Nat.le_of_ble_eq_true rfl), (Nat.le_of_ble_eq_true rfl)⟩ d_Model_save_4 ?_
  refine z_if_eq (tgt := 14) C d_Model_save_7 rfl (fun h3 => ?_) (fun h3 => ?_)
  · have hf := iff_t hf h3
    refine z_iconst C d_Model_save_14 zki_1 ?_
    exact z_sub [0, 1] rfl (w_Model_save_15 C hm hf)
  · have hf := iff_f hf h3
    refine z_iconst C d_Model_save_10 zki_0 ?_
    refine z_goto (tgt := 15) C d_Model_save_11 rfl ?_
    exact z_sub [0, 1] rfl (w_Model_save_15 C hm hf)
abbrev rm_Model_restore : Room := { frames := 1, cells := 0, slots := 0, locals := 24 }
theorem d_Model_restore_0 : decode b_Model_restore 0 = .ok (.aload_n 0, 1) := by decide +kernel
theorem d_Model_restore_1 : decode b_Model_restore 1 = .ok (.iload_n 1, 1) := by decide +kernel
theorem d_Model_restore_2 : decode b_Model_restore 2 = .ok (.iconst 0, 1) := by decide +kernel
theorem d_Model_restore_3 : decode b_Model_restore 3 = .ok (.iconst 1, 1) := by decide +kernel
theorem d_Model_restore_4 : decode b_Model_restore 4 = .ok (.invokestatic 51, 3) := by decide +kernel
theorem d_Model_restore_7 : decode b_Model_restore 7 = .ok (.ifCond .ne 7, 3) := by decide +kernel
theorem d_Model_restore_10 : decode b_Model_restore 10 = .ok (.iconst 1, 1) := by decide +kernel
theorem d_Model_restore_11 : decode b_Model_restore 11 = .ok (.goto 17, 3) := by decide +kernel
theorem d_Model_restore_14 : decode b_Model_restore 14 = .ok (.aload_n 0, 1) := by decide +kernel
theorem d_Model_restore_15 : decode b_Model_restore 15 = .ok (.getfield 22, 3) := by decide +kernel
theorem d_Model_restore_18 : decode b_Model_restore 18 = .ok (.iload_n 1, 1) := by decide +kernel
theorem d_Model_restore_19 : decode b_Model_restore 19 = .ok (.baload, 1) := by decide +kernel
theorem d_Model_restore_20 : decode b_Model_restore 20 = .ok (.ifCond .ne 7, 3) := by decide +kernel
theorem d_Model_restore_23 : decode b_Model_restore 23 = .ok (.iconst 2, 1) := by decide +kernel
theorem d_Model_restore_24 : decode b_Model_restore 24 = .ok (.goto 4, 3) := by decide +kernel
theorem d_Model_restore_27 : decode b_Model_restore 27 = .ok (.iconst 0, 1) := by decide +kernel
theorem d_Model_restore_28 : decode b_Model_restore 28 = .ok (.putfield 48, 3) := by decide +kernel
theorem d_Model_restore_31 : decode b_Model_restore 31 = .ok (.aload_n 0, 1) := by decide +kernel
theorem d_Model_restore_32 : decode b_Model_restore 32 = .ok (.getfield 48, 3) := by decide +kernel
theorem d_Model_restore_35 : decode b_Model_restore 35 = .ok (.ifCond .ne 20, 3) := by decide +kernel
theorem d_Model_restore_38 : decode b_Model_restore 38 = .ok (.aload_n 0, 1) := by decide +kernel
theorem d_Model_restore_39 : decode b_Model_restore 39 = .ok (.getfield 19, 3) := by decide +kernel
theorem d_Model_restore_42 : decode b_Model_restore 42 = .ok (.sipush 2592, 3) := by decide +kernel
theorem d_Model_restore_45 : decode b_Model_restore 45 = .ok (.iload_n 1, 1) := by decide +kernel
theorem d_Model_restore_46 : decode b_Model_restore 46 = .ok (.imul, 1) := by decide +kernel
theorem d_Model_restore_47 : decode b_Model_restore 47 = .ok (.aload_n 0, 1) := by decide +kernel
theorem d_Model_restore_48 : decode b_Model_restore 48 = .ok (.getfield 7, 3) := by decide +kernel
theorem d_Model_restore_51 : decode b_Model_restore 51 = .ok (.iconst 0, 1) := by decide +kernel
theorem d_Model_restore_52 : decode b_Model_restore 52 = .ok (.invokestatic 171, 3) := by decide +kernel
theorem d_Model_restore_55 : decode b_Model_restore 55 = .ok (.return_, 1) := by decide +kernel
def B_Model_restore_28 (x1 : Int32) (y1 : Int32) (σ : zSt) : Option (zSt) :=
  if ((zst σ 4 80 8 y1).1 4 80 8) = 0 then ((F_Model_copy 4 84 ((2592 : Int32) * x1) 4 81 (0 : Int32) (zst σ 4 80 8 y1)).bind fun σ7 => some σ7) else some (zst σ 4 80 8 y1)
set_option maxHeartbeats 4000000 in
set_option maxRecDepth 100000 in
theorem w_Model_restore_28 {l : Launch} {G : zLA} {p : Program} {e : Env} {s : State} {m : MethodId} {args : Array Value} {below : List Frame} {meth : Method} {c : Code} (C : zCx G p s m args meth c "VillageWavesModel" b_Model_restore 2 none) (hm : zml G) {x1 : Int32} {y1 : Int32} {σ : zSt} {σ' : zSt} (hf : B_Model_restore_28 x1 y1 σ = some σ') : zWV G p l e rm_Model_restore s m args below meth c 2 0 0 (zQ G below args s rm_Model_restore none σ') 28 [(0, .ref (zad G 4 80)), (1, .int x1)] [.int y1, .ref (zad G 4 80)] σ := by
  rw [B_Model_restore_28] at hf
  refine pf_Model_48 C (zm4 hm 80 rfl) rfl (Nat.le_of_ble_eq_true rfl) rfl d_Model_restore_28 ?_
  refine z_aload_n C d_Model_restore_31 0 rfl rfl ?_
  refine gf_Model_48 C (zm4 hm 80 rfl) rfl rfl d_Model_restore_32 ?_
  refine z_if_ne (tgt := 55) C d_Model_restore_35 rfl (fun h8 => ?_) (fun h8 => ?_)
  · have hf := iff_f hf h8
    cases hf
    exact z_vret C rfl (Nat.le_of_ble_eq_true rfl) (Nat.le_of_ble_eq_true rfl) d_Model_restore_55
  · have hf := iff_t hf h8
    refine z_aload_n C d_Model_restore_38 0 rfl rfl ?_
    refine gf_Model_19 C (zm4 hm 80 rfl) rfl rfl d_Model_restore_39 ?_
    refine z_sipush C d_Model_restore_42 zks_2592 ?_
    refine z_iload_n C d_Model_restore_45 1 rfl rfl ?_
    refine z_imul C d_Model_restore_46 ?_
    refine z_aload_n C d_Model_restore_47 0 rfl rfl ?_
    refine gf_Model_7 C (zm4 hm 80 rfl) rfl rfl d_Model_restore_48 ?_
    refine z_iconst C d_Model_restore_51 zki_0 ?_
    obtain ⟨σ7, h6, hf⟩ := bd_s hf
    refine z_cSv C kl_Model_171 (c_Model_copy ⟨(zm4 hm 84 rfl), (fun _ _ _ _ => rfl)⟩ ⟨(zm4 hm 81 rfl), (fun _ _ _ _ => rfl)⟩ h6) rfl rfl (Nat.le_of_ble_eq_true rfl) ⟨(Nat.le_of_ble_eq_true rfl), (Nat.le_of_ble_eq_true rfl)⟩ ⟨(Nat.le_of_ble_eq_true rfl), (Nat.le_of_ble_eq_true rfl)⟩ d_Model_restore_52 ?_
    cases hf
    exact z_vret C rfl (Nat.le_of_ble_eq_true rfl) (Nat.le_of_ble_eq_true rfl) d_Model_restore_55
def F_Model_restore (a0 : Int32) (σ : zSt) : Option (zSt) :=
  (F_Model_isBetween a0 (0 : Int32) (1 : Int32) σ).bind fun r2 => if r2 = 0 then B_Model_restore_28 a0 (1 : Int32) σ else (if inb a0 2 = true then (if (σ.1 4 85 a0.toNatClampNeg) = 0 then B_Model_restore_28 a0 (2 : Int32) σ else B_Model_restore_28 a0 (0 : Int32) σ) else none)
set_option maxHeartbeats 4000000 in
set_option maxRecDepth 100000 in
theorem c_Model_restore {l : Launch} {G : zLA} (hm : zml G) {a0 : Int32} {σ : zSt} {σ' : zSt} (hf : F_Model_restore a0 σ = some σ') : zM l G y_Model_restore (zws y_Model_restore b_Model_restore 2 none) rm_Model_restore [.ref (zad G 4 80), .int a0] σ none σ' := by
  refine z_ofM (own := "VillageWavesModel") (lv := [(0, .ref (zad G 4 80)), (1, .int a0)]) (by decide +kernel) rfl rfl (Nat.le_of_ble_eq_true rfl) (fun p e s m args below meth c C => ?_)
  rw [F_Model_restore] at hf
  refine z_aload_n C d_Model_restore_0 0 rfl rfl ?_
  refine z_iload_n C d_Model_restore_1 1 rfl rfl ?_
  refine z_iconst C d_Model_restore_2 zki_0 ?_
  refine z_iconst C d_Model_restore_3 zki_1 ?_
  obtain ⟨r2, h1, hf⟩ := bd_s hf
  refine z_cSi C kl_Model_51 (c_Model_isBetween h1) rfl rfl (Nat.le_of_ble_eq_true rfl) ⟨(Nat.le_of_ble_eq_true rfl), (Nat.le_of_ble_eq_true rfl)⟩ ⟨(Nat.le_of_ble_eq_true rfl), (Nat.le_of_ble_eq_true rfl)⟩ d_Model_restore_4 ?_
  refine z_if_ne (tgt := 14) C d_Model_restore_7 rfl (fun h5 => ?_) (fun h5 => ?_)
  · have hf := iff_f hf h5
    refine z_aload_n C d_Model_restore_14 0 rfl rfl ?_
    refine gf_Model_22 C (zm4 hm 80 rfl) rfl rfl d_Model_restore_15 ?_
    refine z_iload_n C d_Model_restore_18 1 rfl rfl ?_
    obtain ⟨h4, hf⟩ := iff_g hf
    refine z_zald C (zm4 hm 85 rfl) rfl (inb_in h4) rfl d_Model_restore_19 ?_
    refine z_if_ne (tgt := 27) C d_Model_restore_20 rfl (fun h3 => ?_) (fun h3 => ?_)
    · have hf := iff_f hf h3
      refine z_iconst C d_Model_restore_27 zki_0 ?_
      exact z_sub [0, 1] rfl (w_Model_restore_28 C hm hf)
    · have hf := iff_t hf h3
      refine z_iconst C d_Model_restore_23 zki_2 ?_
      refine z_goto (tgt := 28) C d_Model_restore_24 rfl ?_
      exact z_sub [0, 1] rfl (w_Model_restore_28 C hm hf)
  · have hf := iff_t hf h5
    refine z_iconst C d_Model_restore_10 zki_1 ?_
    refine z_goto (tgt := 28) C d_Model_restore_11 rfl ?_
    exact z_sub [0, 1] rfl (w_Model_restore_28 C hm hf)
