abbrev rm_Law_tries : Room := { frames := 9, cells := 0, slots := 0, locals := 201 }
theorem d_Law_tries_0 : decode b_Law_tries 0 = .ok (.iconst 1, 1) := by decide +kernel
theorem d_Law_tries_1 : decode b_Law_tries 1 = .ok (.aload_n 0, 1) := by decide +kernel
theorem d_Law_tries_2 : decode b_Law_tries 2 = .ok (.bipush 12, 2) := by decide +kernel
theorem d_Law_tries_4 : decode b_Law_tries 4 = .ok (.invokevirtual 128, 3) := by decide +kernel
theorem d_Law_tries_7 : decode b_Law_tries 7 = .ok (.iadd, 1) := by decide +kernel
theorem d_Law_tries_8 : decode b_Law_tries 8 = .ok (.istore_n 1, 1) := by decide +kernel
theorem d_Law_tries_9 : decode b_Law_tries 9 = .ok (.aload_n 0, 1) := by decide +kernel
theorem d_Law_tries_10 : decode b_Law_tries 10 = .ok (.getfield 10, 3) := by decide +kernel
theorem d_Law_tries_13 : decode b_Law_tries 13 = .ok (.iload_n 1, 1) := by decide +kernel
theorem d_Law_tries_14 : decode b_Law_tries 14 = .ok (.invokestatic 195, 3) := by decide +kernel
theorem d_Law_tries_17 : decode b_Law_tries 17 = .ok (.istore_n 2, 1) := by decide +kernel
theorem d_Law_tries_18 : decode b_Law_tries 18 = .ok (.iconst (-1), 1) := by decide +kernel
theorem d_Law_tries_19 : decode b_Law_tries 19 = .ok (.istore_n 3, 1) := by decide +kernel
theorem d_Law_tries_20 : decode b_Law_tries 20 = .ok (.iconst 0, 1) := by decide +kernel
theorem d_Law_tries_21 : decode b_Law_tries 21 = .ok (.istore 4, 2) := by decide +kernel
theorem d_Law_tries_23 : decode b_Law_tries 23 = .ok (.aload_n 0, 1) := by decide +kernel
theorem d_Law_tries_24 : decode b_Law_tries 24 = .ok (.getfield 10, 3) := by decide +kernel
theorem d_Law_tries_27 : decode b_Law_tries 27 = .ok (.bipush 7, 2) := by decide +kernel
theorem d_Law_tries_29 : decode b_Law_tries 29 = .ok (.invokestatic 144, 3) := by decide +kernel
theorem d_Law_tries_32 : decode b_Law_tries 32 = .ok (.bipush 20, 2) := by decide +kernel
theorem d_Law_tries_34 : decode b_Law_tries 34 = .ok (.if_icmp .ne 14, 3) := by decide +kernel
theorem d_Law_tries_37 : decode b_Law_tries 37 = .ok (.iload_n 2, 1) := by decide +kernel
theorem d_Law_tries_38 : decode b_Law_tries 38 = .ok (.iconst (-1), 1) := by decide +kernel
theorem d_Law_tries_39 : decode b_Law_tries 39 = .ok (.if_icmp .ne 7, 3) := by decide +kernel
theorem d_Law_tries_42 : decode b_Law_tries 42 = .ok (.iconst 1, 1) := by decide +kernel
theorem d_Law_tries_43 : decode b_Law_tries 43 = .ok (.goto 4, 3) := by decide +kernel
theorem d_Law_tries_46 : decode b_Law_tries 46 = .ok (.iconst 0, 1) := by decide +kernel
theorem d_Law_tries_47 : decode b_Law_tries 47 = .ok (.ireturn, 1) := by decide +kernel
theorem d_Law_tries_48 : decode b_Law_tries 48 = .ok (.iconst 0, 1) := by decide +kernel
theorem d_Law_tries_49 : decode b_Law_tries 49 = .ok (.istore 5, 2) := by decide +kernel
theorem d_Law_tries_51 : decode b_Law_tries 51 = .ok (.iload 5, 2) := by decide +kernel
theorem d_Law_tries_53 : decode b_Law_tries 53 = .ok (.aload_n 0, 1) := by decide +kernel
theorem d_Law_tries_54 : decode b_Law_tries 54 = .ok (.getfield 10, 3) := by decide +kernel
theorem d_Law_tries_57 : decode b_Law_tries 57 = .ok (.bipush 6, 2) := by decide +kernel
theorem d_Law_tries_59 : decode b_Law_tries 59 = .ok (.invokestatic 144, 3) := by decide +kernel
theorem d_Law_tries_62 : decode b_Law_tries 62 = .ok (.if_icmp .ge 79, 3) := by decide +kernel
theorem d_Law_tries_65 : decode b_Law_tries 65 = .ok (.aload_n 0, 1) := by decide +kernel
theorem d_Law_tries_66 : decode b_Law_tries 66 = .ok (.getfield 10, 3) := by decide +kernel
theorem d_Law_tries_69 : decode b_Law_tries 69 = .ok (.iconst 0, 1) := by decide +kernel
theorem d_Law_tries_70 : decode b_Law_tries 70 = .ok (.invokestatic 191, 3) := by decide +kernel
theorem d_Law_tries_73 : decode b_Law_tries 73 = .ok (.ifCond .eq 5, 3) := by decide +kernel
theorem d_Law_tries_76 : decode b_Law_tries 76 = .ok (.iconst 0, 1) := by decide +kernel
theorem d_Law_tries_77 : decode b_Law_tries 77 = .ok (.ireturn, 1) := by decide +kernel
theorem d_Law_tries_78 : decode b_Law_tries 78 = .ok (.aload_n 0, 1) := by decide +kernel
theorem d_Law_tries_79 : decode b_Law_tries 79 = .ok (.getfield 10, 3) := by decide +kernel
theorem d_Law_tries_82 : decode b_Law_tries 82 = .ok (.iload 5, 2) := by decide +kernel
theorem d_Law_tries_84 : decode b_Law_tries 84 = .ok (.iconst 0, 1) := by decide +kernel
theorem d_Law_tries_85 : decode b_Law_tries 85 = .ok (.invokestatic 183, 3) := by decide +kernel
theorem d_Law_tries_88 : decode b_Law_tries 88 = .ok (.istore 6, 2) := by decide +kernel
theorem d_Law_tries_90 : decode b_Law_tries 90 = .ok (.aload_n 0, 1) := by decide +kernel
theorem d_Law_tries_91 : decode b_Law_tries 91 = .ok (.getfield 10, 3) := by decide +kernel
theorem d_Law_tries_94 : decode b_Law_tries 94 = .ok (.iload 6, 2) := by decide +kernel
theorem d_Law_tries_96 : decode b_Law_tries 96 = .ok (.iload_n 1, 1) := by decide +kernel
theorem d_Law_tries_97 : decode b_Law_tries 97 = .ok (.iconst 0, 1) := by decide +kernel
theorem d_Law_tries_98 : decode b_Law_tries 98 = .ok (.invokestatic 187, 3) := by decide +kernel
theorem d_Law_tries_101 : decode b_Law_tries 101 = .ok (.istore 7, 2) := by decide +kernel
theorem d_Law_tries_103 : decode b_Law_tries 103 = .ok (.iload 7, 2) := by decide +kernel
theorem d_Law_tries_105 : decode b_Law_tries 105 = .ok (.iload 4, 2) := by decide +kernel
theorem d_Law_tries_107 : decode b_Law_tries 107 = .ok (.if_icmp .le 6, 3) := by decide +kernel
theorem d_Law_tries_110 : decode b_Law_tries 110 = .ok (.iload 5, 2) := by decide +kernel
theorem d_Law_tries_112 : decode b_Law_tries 112 = .ok (.istore_n 3, 1) := by decide +kernel
theorem d_Law_tries_113 : decode b_Law_tries 113 = .ok (.iload 4, 2) := by decide +kernel
theorem d_Law_tries_115 : decode b_Law_tries 115 = .ok (.iload 7, 2) := by decide +kernel
theorem d_Law_tries_117 : decode b_Law_tries 117 = .ok (.invokestatic 26, 3) := by decide +kernel
theorem d_Law_tries_120 : decode b_Law_tries 120 = .ok (.istore 4, 2) := by decide +kernel
theorem d_Law_tries_122 : decode b_Law_tries 122 = .ok (.aload_n 0, 1) := by decide +kernel
theorem d_Law_tries_123 : decode b_Law_tries 123 = .ok (.getfield 10, 3) := by decide +kernel
theorem d_Law_tries_126 : decode b_Law_tries 126 = .ok (.iconst 0, 1) := by decide +kernel
theorem d_Law_tries_127 : decode b_Law_tries 127 = .ok (.invokestatic 193, 3) := by decide +kernel
theorem d_Law_tries_130 : decode b_Law_tries 130 = .ok (.ifCond .eq 5, 3) := by decide +kernel
theorem d_Law_tries_133 : decode b_Law_tries 133 = .ok (.iconst 0, 1) := by decide +kernel
theorem d_Law_tries_134 : decode b_Law_tries 134 = .ok (.ireturn, 1) := by decide +kernel
theorem d_Law_tries_135 : decode b_Law_tries 135 = .ok (.iinc 5 1, 3) := by decide +kernel
theorem d_Law_tries_138 : decode b_Law_tries 138 = .ok (.goto (-87), 3) := by decide +kernel
theorem d_Law_tries_141 : decode b_Law_tries 141 = .ok (.iload_n 3, 1) := by decide +kernel
theorem d_Law_tries_142 : decode b_Law_tries 142 = .ok (.iload_n 2, 1) := by decide +kernel
theorem d_Law_tries_143 : decode b_Law_tries 143 = .ok (.if_icmp .ne 7, 3) := by decide +kernel
theorem d_Law_tries_146 : decode b_Law_tries 146 = .ok (.iconst 1, 1) := by decide +kernel
theorem d_Law_tries_147 : decode b_Law_tries 147 = .ok (.goto 4, 3) := by decide +kernel
theorem d_Law_tries_150 : decode b_Law_tries 150 = .ok (.iconst 0, 1) := by decide +kernel
theorem d_Law_tries_151 : decode b_Law_tries 151 = .ok (.ireturn, 1) := by decide +kernel
def L_Law_tries (G : zLA) : Nat → Nat → Int32 → Int32 → Int32 → Int32 → Int32 → zSt → Option (Int32 × zSt)
  | 0, _, _, _, _, _, _, _ => none
  | n + 1, 0, x1, x2, x3, x4, x5, σ => (F_Law_count (6 : Int32) σ).bind fun r12 => if r12 ≤ x5 then (if x3 = x2 then some ((1 : Int32), σ) else some ((0 : Int32), σ)) else (bd2 (F_Law_save (0 : Int32) σ) fun r15 σ16 => if r15 = 0 then (bd2 (F_Law_tell x5 (0 : Int32) σ16) fun r18 σ19 => bd2 (F_Law_reached r18 x1 (0 : Int32) σ19) fun r21 σ22 => if r21 ≤ x4 then (bd2 (F_Law_restore (0 : Int32) σ22) fun r24 σ25 => if r24 = 0 then L_Law_tries G n 0 x1 x2 x3 (if x4 < r21 then r21 else x4) (x5 + (1 : Int32)) σ25 else some ((0 : Int32), σ25)) else (bd2 (F_Law_restore (0 : Int32) σ22) fun r28 σ29 => if r28 = 0 then L_Law_tries G n 0 x1 x2 x5 (if x4 < r21 then r21 else x4) (x5 + (1 : Int32)) σ29 else some ((0 : Int32), σ29))) else some ((0 : Int32), σ16))
  | _ + 1, _, _, _, _, _, _, _ => none
theorem e_Law_tries_0 (G : zLA) (n : Nat) (x1 : Int32) (x2 : Int32) (x3 : Int32) (x4 : Int32) (x5 : Int32) (σ : zSt) : L_Law_tries G (n + 1) 0 x1 x2 x3 x4 x5 σ = ((F_Law_count (6 : Int32) σ).bind fun r12 => if r12 ≤ x5 then (if x3 = x2 then some ((1 : Int32), σ) else some ((0 : Int32), σ)) else (bd2 (F_Law_save (0 : Int32) σ) fun r15 σ16 => if r15 = 0 then (bd2 (F_Law_tell x5 (0 : Int32) σ16) fun r18 σ19 => bd2 (F_Law_reached r18 x1 (0 : Int32) σ19) fun r21 σ22 => if r21 ≤ x4 then (bd2 (F_Law_restore (0 : Int32) σ22) fun r24 σ25 => if r24 = 0 then L_Law_tries G n 0 x1 x2 x3 (if x4 < r21 then r21 else x4) (x5 + (1 : Int32)) σ25 else some ((0 : Int32), σ25)) else (bd2 (F_Law_restore (0 : Int32) σ22) fun r28 σ29 => if r28 = 0 then L_Law_tries G n 0 x1 x2 x5 (if x4 < r21 then r21 else x4) (x5 + (1 : Int32)) σ29 else some ((0 : Int32), σ29))) else some ((0 : Int32), σ16))) := rfl
set_option maxHeartbeats 4000000 in
set_option maxRecDepth 100000 in
theorem w_Law_tries {l : Launch} {G : zLA} {p : Program} {e : Env} {s : State} {m : MethodId} {args : Array Value} {below : List Frame} {meth : Method} {c : Code} (C : zCx G p s m args meth c "VillageWavesLaw" b_Law_tries 8 (some .boolean)) (hx : zxl G) (hm : zml G) {r : Int32} {σ' : zSt} : ∀ n : Nat, (∀ (x1 : Int32) (x2 : Int32) (x3 : Int32) (x4 : Int32) (x5 : Int32) (σ : zSt), L_Law_tries G n 0 x1 x2 x3 x4 x5 σ = some (r, σ') → zWV G p l e rm_Law_tries s m args below meth c 8 0 0 (zQ G below args s rm_Law_tries (some (.int r)) σ') 51 [(0, .ref (zad G 4 80)), (1, .int x1), (2, .int x2), (3, .int x3), (4, .int x4), (5, .int x5)] [] σ) := by
  intro n
  induction n with
  | zero => exact fun _ _ _ _ _ _ hf => (by cases hf)
  | succ n ih =>
    refine ?_
    · intro x1 x2 x3 x4 x5 σ hf
      rw [e_Law_tries_0] at hf
      refine z_iload C d_Law_tries_51 5 rfl ?_
      refine z_aload_n C d_Law_tries_53 0 rfl rfl ?_
      refine gf_Law_10 C hm rfl rfl d_Law_tries_54 ?_
      refine z_bipush C d_Law_tries_57 zkb_6 ?_
      obtain ⟨r12, h11, hf⟩ := bd_s hf
      refine z_cHi C kh_Law_count (c_Law_count hx h11) rfl rfl (Nat.le_of_ble_eq_true rfl) ⟨(Nat.le_of_ble_eq_true rfl), (Nat.le_of_ble_eq_true rfl)⟩ ⟨(Nat.le_of_ble_eq_true rfl), (Nat.le_of_ble_eq_true rfl)⟩ d_Law_tries_59 ?_
      refine z_icmp_ge (tgt := 141) C d_Law_tries_62 rfl (fun h33 => ?_) (fun h33 => ?_)
      · have hf := iff_t hf h33
        refine z_iload_n C d_Law_tries_141 3 rfl rfl ?_
        refine z_iload_n C d_Law_tries_142 2 rfl rfl ?_
        refine z_icmp_ne (tgt := 150) C d_Law_tries_143 rfl (fun h13 => ?_) (fun h13 => ?_)
        · have hf := iff_f hf h13
          refine z_iconst C d_Law_tries_150 zki_0 ?_
          cases hf
          exact z_zret C rfl rfl (Nat.le_of_ble_eq_true rfl) (Nat.le_of_ble_eq_true rfl) d_Law_tries_151
        · have hf := iff_t hf h13
          refine z_iconst C d_Law_tries_146 zki_1 ?_
          refine z_goto (tgt := 151) C d_Law_tries_147 rfl ?_
          cases hf
          exact z_zret C rfl rfl (Nat.le_of_ble_eq_true rfl) (Nat.le_of_ble_eq_true rfl) d_Law_tries_151
      · have hf := iff_f hf h33
        refine z_aload_n C d_Law_tries_65 0 rfl rfl ?_
        refine gf_Law_10 C hm rfl rfl d_Law_tries_66 ?_
        refine z_iconst C d_Law_tries_69 zki_0 ?_
        obtain ⟨r15, σ16, h14, hf⟩ := bd2_s hf
        refine z_cHi C kh_Law_save (c_Law_save hx h14) rfl rfl (Nat.le_of_ble_eq_true rfl) ⟨(Nat.le_of_ble_eq_true rfl), (Nat.le_of_ble_eq_true rfl)⟩ ⟨(Nat.le_of_ble_eq_true rfl), (Nat.le_of_ble_eq_true rfl)⟩ d_Law_tries_70 ?_
        refine z_if_eq (tgt := 78) C d_Law_tries_73 rfl (fun h32 => ?_) (fun h32 => ?_)
        · have hf := iff_t hf h32
          refine z_aload_n C d_Law_tries_78 0 rfl rfl ?_
          refine gf_Law_10 C hm rfl rfl d_Law_tries_79 ?_
          refine z_iload C d_Law_tries_82 5 rfl ?_
          refine z_iconst C d_Law_tries_84 zki_0 ?_
          obtain ⟨r18, σ19, h17, hf⟩ := bd2_s hf
          refine z_cHi C kh_Law_tell (c_Law_tell hx h17) rfl rfl (Nat.le_of_ble_eq_true rfl) ⟨(Nat.le_of_ble_eq_true rfl), (Nat.le_of_ble_eq_true rfl)⟩ ⟨(Nat.le_of_ble_eq_true rfl), (Nat.le_of_ble_eq_true rfl)⟩ d_Law_tries_85 ?_
          refine z_istore C d_Law_tries_88 (by decide) ?_
          refine z_lv (lv1 := [(6, .int r18), (0, .ref (zad G 4 80)), (1, .int x1), (2, .int x2), (3, .int x3), (4, .int x4), (5, .int x5)]) rfl ?_
          refine z_aload_n C d_Law_tries_90 1 rfl rfl ?_
          refine gf_Law_10 C hm rfl rfl d_Law_tries_91 ?_
          refine z_iload C d_Law_tries_94 0 rfl ?_
          refine z_iload_n C d_Law_tries_96 2 rfl rfl ?_
          refine z_iconst C d_Law_tries_97 zki_0 ?_
          obtain ⟨r21, σ22, h20, hf⟩ := bd2_s hf
          refine z_cHi C kh_Law_reached (c_Law_reached hx h20) rfl rfl (Nat.le_of_ble_eq_true rfl) ⟨(Nat.le_of_ble_eq_true rfl), (Nat.le_of_ble_eq_true rfl)⟩ ⟨(Nat.le_of_ble_eq_true rfl), (Nat.le_of_ble_eq_true rfl)⟩ d_Law_tries_98 ?_
          refine z_istore C d_Law_tries_101 (by decide) ?_
          refine z_lv (lv1 := [(7, .int r21), (6, .int r18), (0, .ref (zad G 4 80)), (1, .int x1), (2, .int x2), (3, .int x3), (4, .int x4), (5, .int x5)]) rfl ?_
          refine z_iload C d_Law_tries_103 0 rfl ?_
          refine z_iload C d_Law_tries_105 6 rfl ?_
          refine z_icmp_le (tgt := 113) C d_Law_tries_107 rfl (fun h31 => ?_) (fun h31 => ?_)
          · have hf := iff_t hf h31
            refine z_iload C d_Law_tries_113 6 rfl ?_
            refine z_iload C d_Law_tries_115 0 rfl ?_
            refine z_mmax C zq400 rfl (Nat.le_of_ble_eq_true rfl) (Nat.le_of_ble_eq_true rfl) (Nat.le_of_ble_eq_true rfl) (Nat.le_of_ble_eq_true rfl) (Nat.le_of_ble_eq_true rfl) d_Law_tries_117 ?_
            refine z_istore C d_Law_tries_120 (by decide) ?_
            refine z_lv (lv1 := [(4, .int (if x4 < r21 then r21 else x4)), (7, .int r21), (6, .int r18), (0, .ref (zad G 4 80)), (1, .int x1), (2, .int x2), (3, .int x3), (5, .int x5)]) rfl ?_
            refine z_aload_n C d_Law_tries_122 3 rfl rfl ?_
            refine gf_Law_10 C hm rfl rfl d_Law_tries_123 ?_
            refine z_iconst C d_Law_tries_126 zki_0 ?_
            obtain ⟨r24, σ25, h23, hf⟩ := bd2_s hf
            refine z_cHi C kh_Law_restore (c_Law_restore hx h23) rfl rfl (Nat.le_of_ble_eq_true rfl) ⟨(Nat.le_of_ble_eq_true rfl), (Nat.le_of_ble_eq_true rfl)⟩ ⟨(Nat.le_of_ble_eq_true rfl), (Nat.le_of_ble_eq_true rfl)⟩ d_Law_tries_127 ?_
            refine z_if_eq (tgt := 135) C d_Law_tries_130 rfl (fun h26 => ?_) (fun h26 => ?_)
            · have hf := iff_t hf h26
              refine z_iinc C d_Law_tries_135 7 rfl zki_1 (by decide) ?_
              refine z_lv (lv1 := [(5, .int (x5 + (1 : Int32))), (4, .int (if x4 < r21 then r21 else x4)), (7, .int r21), (6, .int r18), (0, .ref (zad G 4 80)), (1, .int x1), (2, .int x2), (3, .int x3)]) rfl ?_
              refine z_goto (tgt := 51) C d_Law_tries_138 rfl ?_
              have hw := ih _ _ _ _ _ _ hf
              exact z_sub [4, 5, 6, 7, 1, 0] rfl hw
            · have hf := iff_f hf h26
              refine z_iconst C d_Law_tries_133 zki_0 ?_
              cases hf
              exact z_zret C rfl rfl (Nat.le_of_ble_eq_true rfl) (Nat.le_of_ble_eq_true rfl) d_Law_tries_134
          · have hf := iff_f hf h31
            refine z_iload C d_Law_tries_110 7 rfl ?_
            refine z_istore_n C d_Law_tries_112 rfl (by decide) ?_
            refine z_lv (lv1 := [(3, .int x5), (7, .int r21), (6, .int r18), (0, .ref (zad G 4 80)), (1, .int x1), (2, .int x2), (4, .int x4), (5, .int x5)]) rfl ?_
            refine z_iload C d_Law_tries_113 6 rfl ?_
            refine z_iload C d_Law_tries_115 1 rfl ?_
            refine z_mmax C zq400 rfl (Nat.le_of_ble_eq_true rfl) (Nat.le_of_ble_eq_true rfl) (Nat.le_of_ble_eq_true rfl) (Nat.le_of_ble_eq_true rfl) (Nat.le_of_ble_eq_true rfl) d_Law_tries_117 ?_
            refine z_istore C d_Law_tries_120 (by decide) ?_
            refine z_lv (lv1 := [(4, .int (if x4 < r21 then r21 else x4)), (3, .int x5), (7, .int r21), (6, .int r18), (0, .ref (zad G 4 80)), (1, .int x1), (2, .int x2), (5, .int x5)]) rfl ?_
            refine z_aload_n C d_Law_tries_122 4 rfl rfl ?_
            refine gf_Law_10 C hm rfl rfl d_Law_tries_123 ?_
            refine z_iconst C d_Law_tries_126 zki_0 ?_
            obtain ⟨r28, σ29, h27, hf⟩ := bd2_s hf
            refine z_cHi C kh_Law_restore (c_Law_restore hx h27) rfl rfl (Nat.le_of_ble_eq_true rfl) ⟨(Nat.le_of_ble_eq_true rfl), (Nat.le_of_ble_eq_true rfl)⟩ ⟨(Nat.le_of_ble_eq_true rfl), (Nat.le_of_ble_eq_true rfl)⟩ d_Law_tries_127 ?_
            refine z_if_eq (tgt := 135) C d_Law_tries_130 rfl (fun h30 => ?_) (fun h30 => ?_)
            · have hf := iff_t hf h30
              refine z_iinc C d_Law_tries_135 7 rfl zki_1 (by decide) ?_
              refine z_lv (lv1 := [(5, .int (x5 + (1 : Int32))), (4, .int (if x4 < r21 then r21 else x4)), (3, .int x5), (7, .int r21), (6, .int r18), (0, .ref (zad G 4 80)), (1, .int x1), (2, .int x2)]) rfl ?_
              refine z_goto (tgt := 51) C d_Law_tries_138 rfl ?_
              have hw := ih _ _ _ _ _ _ hf
              exact z_sub [5, 6, 7, 2, 1, 0] rfl hw
            · have hf := iff_f hf h30
              refine z_iconst C d_Law_tries_133 zki_0 ?_
              cases hf
              exact z_zret C rfl rfl (Nat.le_of_ble_eq_true rfl) (Nat.le_of_ble_eq_true rfl) d_Law_tries_134
        · have hf := iff_f hf h32
          refine z_iconst C d_Law_tries_76 zki_0 ?_
          cases hf
          exact z_zret C rfl rfl (Nat.le_of_ble_eq_true rfl) (Nat.le_of_ble_eq_true rfl) d_Law_tries_77
def F_Law_tries (G : zLA) (σ : zSt) : Option (Int32 × zSt) :=
  bd2 (F_Law_draw G (12 : Int32) σ) fun r2 σ3 => bd2 (F_Law_bestAuthor ((1 : Int32) + r2) σ3) fun r5 σ6 => (F_Law_count (7 : Int32) σ6).bind fun r8 => if r8 = (20 : Int32) then (if r5 = (-1 : Int32) then some ((1 : Int32), σ6) else some ((0 : Int32), σ6)) else L_Law_tries G zK 0 ((1 : Int32) + r2) r5 (-1 : Int32) (0 : Int32) (0 : Int32) σ6
set_option maxHeartbeats 4000000 in
set_option maxRecDepth 100000 in
theorem c_Law_tries {l : Launch} {G : zLA} (hx : zxl G) (hm : zml G) {σ : zSt} {r : Int32} {σ' : zSt} (hf : F_Law_tries G σ = some (r, σ')) : zM l G y_Law_tries (zws y_Law_tries b_Law_tries 8 (some .boolean)) rm_Law_tries [.ref (zad G 4 80)] σ (some (.int r)) σ' := by
  refine z_ofM (own := "VillageWavesLaw") (lv := [(0, .ref (zad G 4 80))]) (by decide +kernel) rfl rfl (Nat.le_of_ble_eq_true rfl) (fun p e s m args below meth c C => ?_)
  rw [F_Law_tries] at hf
  refine z_iconst C d_Law_tries_0 zki_1 ?_
  refine z_aload_n C d_Law_tries_1 0 rfl rfl ?_
  refine z_bipush C d_Law_tries_2 zkb_12 ?_
  obtain ⟨r2, σ3, h1, hf⟩ := bd2_s hf
  refine z_cVi C kl_Law_128 rfl (c_Law_draw hx hm h1) hm rfl rfl rfl (Nat.le_of_ble_eq_true rfl) ⟨(Nat.le_of_ble_eq_true rfl), (Nat.le_of_ble_eq_true rfl)⟩ ⟨(Nat.le_of_ble_eq_true rfl), (Nat.le_of_ble_eq_true rfl)⟩ d_Law_tries_4 ?_
  refine z_iadd C d_Law_tries_7 ?_
  refine z_istore_n C d_Law_tries_8 rfl (by decide) ?_
  refine z_lv (lv1 := [(1, .int ((1 : Int32) + r2)), (0, .ref (zad G 4 80))]) rfl ?_
  refine z_aload_n C d_Law_tries_9 1 rfl rfl ?_
  refine gf_Law_10 C hm rfl rfl d_Law_tries_10 ?_
  refine z_iload_n C d_Law_tries_13 0 rfl rfl ?_
  obtain ⟨r5, σ6, h4, hf⟩ := bd2_s hf
  refine z_cHi C kh_Law_bestAuthor (c_Law_bestAuthor hx h4) rfl rfl (Nat.le_of_ble_eq_true rfl) ⟨(Nat.le_of_ble_eq_true rfl), (Nat.le_of_ble_eq_true rfl)⟩ ⟨(Nat.le_of_ble_eq_true rfl), (Nat.le_of_ble_eq_true rfl)⟩ d_Law_tries_14 ?_
  refine z_istore_n C d_Law_tries_17 rfl (by decide) ?_
  refine z_lv (lv1 := [(2, .int r5), (1, .int ((1 : Int32) + r2)), (0, .ref (zad G 4 80))]) rfl ?_
  refine z_iconst C d_Law_tries_18 zki_m1 ?_
  refine z_istore_n C d_Law_tries_19 rfl (by decide) ?_
  refine z_lv (lv1 := [(3, .int (-1 : Int32)), (2, .int r5), (1, .int ((1 : Int32) + r2)), (0, .ref (zad G 4 80))]) rfl ?_
  refine z_iconst C d_Law_tries_20 zki_0 ?_
  refine z_istore C d_Law_tries_21 (by decide) ?_
  refine z_lv (lv1 := [(4, .int (0 : Int32)), (3, .int (-1 : Int32)), (2, .int r5), (1, .int ((1 : Int32) + r2)), (0, .ref (zad G 4 80))]) rfl ?_
  refine z_aload_n C d_Law_tries_23 4 rfl rfl ?_
  refine gf_Law_10 C hm rfl rfl d_Law_tries_24 ?_
  refine z_bipush C d_Law_tries_27 zkb_7 ?_
  obtain ⟨r8, h7, hf⟩ := bd_s hf
  refine z_cHi C kh_Law_count (c_Law_count hx h7) rfl rfl (Nat.le_of_ble_eq_true rfl) ⟨(Nat.le_of_ble_eq_true rfl), (Nat.le_of_ble_eq_true rfl)⟩ ⟨(Nat.le_of_ble_eq_true rfl), (Nat.le_of_ble_eq_true rfl)⟩ d_Law_tries_29 ?_
  refine z_bipush C d_Law_tries_32 zkb_20 ?_
  refine z_icmp_ne (tgt := 48) C d_Law_tries_34 rfl (fun h10 => ?_) (fun h10 => ?_)
  · have hf := iff_f hf h10
    refine z_iconst C d_Law_tries_48 zki_0 ?_
    refine z_istore C d_Law_tries_49 (by decide) ?_
    refine z_lv (lv1 := [(5, .int (0 : Int32)), (4, .int (0 : Int32)), (3, .int (-1 : Int32)), (2, .int r5), (1, .int ((1 : Int32) + r2)), (0, .ref (zad G 4 80))]) rfl ?_
    have hw := (w_Law_tries (l := l) (e := e) (below := below) C hx hm zK) _ _ _ _ _ _ hf
    exact z_sub [5, 4, 3, 2, 1, 0] rfl hw
  · have hf := iff_t hf h10
    refine z_iload_n C d_Law_tries_37 2 rfl rfl ?_
    refine z_iconst C d_Law_tries_38 zki_m1 ?_
    refine z_icmp_ne (tgt := 46) C d_Law_tries_39 rfl (fun h9 => ?_) (fun h9 => ?_)
    · have hf := iff_f hf h9
      refine z_iconst C d_Law_tries_46 zki_0 ?_
      cases hf
      exact z_zret C rfl rfl (Nat.le_of_ble_eq_true rfl) (Nat.le_of_ble_eq_true rfl) d_Law_tries_47
    · have hf := iff_t hf h9
      refine z_iconst C d_Law_tries_42 zki_1 ?_
      refine z_goto (tgt := 47) C d_Law_tries_43 rfl ?_
      cases hf
      exact z_zret C rfl rfl (Nat.le_of_ble_eq_true rfl) (Nat.le_of_ble_eq_true rfl) d_Law_tries_47
