abbrev rm_Law_holds : Room := { frames := 10, cells := 1, slots := 6, locals := 256 }
theorem d_Law_holds_0 : decode b_Law_holds 0 = .ok (.aload_n 0, 1) := by decide +kernel
theorem d_Law_holds_1 : decode b_Law_holds 1 = .ok (.aload_n 1, 1) := by decide +kernel
theorem d_Law_holds_2 : decode b_Law_holds 2 = .ok (.putfield 18, 3) := by decide +kernel
theorem d_Law_holds_5 : decode b_Law_holds 5 = .ok (.aload_n 0, 1) := by decide +kernel
theorem d_Law_holds_6 : decode b_Law_holds 6 = .ok (.invokevirtual 202, 3) := by decide +kernel
theorem d_Law_holds_9 : decode b_Law_holds 9 = .ok (.ifCond .ne 5, 3) := by decide +kernel
theorem d_Law_holds_12 : decode b_Law_holds 12 = .ok (.iconst 0, 1) := by decide +kernel
theorem d_Law_holds_13 : decode b_Law_holds 13 = .ok (.ireturn, 1) := by decide +kernel
theorem d_Law_holds_14 : decode b_Law_holds 14 = .ok (.iconst 0, 1) := by decide +kernel
theorem d_Law_holds_15 : decode b_Law_holds 15 = .ok (.istore_n 2, 1) := by decide +kernel
theorem d_Law_holds_16 : decode b_Law_holds 16 = .ok (.iload_n 2, 1) := by decide +kernel
theorem d_Law_holds_17 : decode b_Law_holds 17 = .ok (.bipush 60, 2) := by decide +kernel
theorem d_Law_holds_19 : decode b_Law_holds 19 = .ok (.if_icmp .ge 127, 3) := by decide +kernel
theorem d_Law_holds_22 : decode b_Law_holds 22 = .ok (.aload_n 0, 1) := by decide +kernel
theorem d_Law_holds_23 : decode b_Law_holds 23 = .ok (.iconst 4, 1) := by decide +kernel
theorem d_Law_holds_24 : decode b_Law_holds 24 = .ok (.invokevirtual 128, 3) := by decide +kernel
theorem d_Law_holds_27 : decode b_Law_holds 27 = .ok (.ifCond .ne 10, 3) := by decide +kernel
theorem d_Law_holds_30 : decode b_Law_holds 30 = .ok (.aload_n 0, 1) := by decide +kernel
theorem d_Law_holds_31 : decode b_Law_holds 31 = .ok (.invokevirtual 206, 3) := by decide +kernel
theorem d_Law_holds_34 : decode b_Law_holds 34 = .ok (.ifCond .eq 48, 3) := by decide +kernel
theorem d_Law_holds_37 : decode b_Law_holds 37 = .ok (.aload_n 0, 1) := by decide +kernel
theorem d_Law_holds_38 : decode b_Law_holds 38 = .ok (.invokevirtual 209, 3) := by decide +kernel
theorem d_Law_holds_41 : decode b_Law_holds 41 = .ok (.ifCond .eq 41, 3) := by decide +kernel
theorem d_Law_holds_44 : decode b_Law_holds 44 = .ok (.aload_n 0, 1) := by decide +kernel
theorem d_Law_holds_45 : decode b_Law_holds 45 = .ok (.bipush 6, 2) := by decide +kernel
theorem d_Law_holds_47 : decode b_Law_holds 47 = .ok (.invokevirtual 128, 3) := by decide +kernel
theorem d_Law_holds_50 : decode b_Law_holds 50 = .ok (.ifCond .ne 34, 3) := by decide +kernel
theorem d_Law_holds_53 : decode b_Law_holds 53 = .ok (.aload_n 0, 1) := by decide +kernel
theorem d_Law_holds_54 : decode b_Law_holds 54 = .ok (.getfield 10, 3) := by decide +kernel
theorem d_Law_holds_57 : decode b_Law_holds 57 = .ok (.aload_n 0, 1) := by decide +kernel
theorem d_Law_holds_58 : decode b_Law_holds 58 = .ok (.aload_n 0, 1) := by decide +kernel
theorem d_Law_holds_59 : decode b_Law_holds 59 = .ok (.getfield 10, 3) := by decide +kernel
theorem d_Law_holds_62 : decode b_Law_holds 62 = .ok (.bipush 6, 2) := by decide +kernel
theorem d_Law_holds_64 : decode b_Law_holds 64 = .ok (.invokestatic 144, 3) := by decide +kernel
theorem d_Law_holds_67 : decode b_Law_holds 67 = .ok (.invokevirtual 128, 3) := by decide +kernel
theorem d_Law_holds_70 : decode b_Law_holds 70 = .ok (.aload_n 0, 1) := by decide +kernel
theorem d_Law_holds_71 : decode b_Law_holds 71 = .ok (.bipush 99, 2) := by decide +kernel
theorem d_Law_holds_73 : decode b_Law_holds 73 = .ok (.invokevirtual 128, 3) := by decide +kernel
theorem d_Law_holds_76 : decode b_Law_holds 76 = .ok (.invokestatic 212, 3) := by decide +kernel
theorem d_Law_holds_79 : decode b_Law_holds 79 = .ok (.ifCond .ge 5, 3) := by decide +kernel
theorem d_Law_holds_82 : decode b_Law_holds 82 = .ok (.iconst 0, 1) := by decide +kernel
theorem d_Law_holds_83 : decode b_Law_holds 83 = .ok (.ireturn, 1) := by decide +kernel
theorem d_Law_holds_84 : decode b_Law_holds 84 = .ok (.iload_n 2, 1) := by decide +kernel
theorem d_Law_holds_85 : decode b_Law_holds 85 = .ok (.bipush 9, 2) := by decide +kernel
theorem d_Law_holds_87 : decode b_Law_holds 87 = .ok (.irem, 1) := by decide +kernel
theorem d_Law_holds_88 : decode b_Law_holds 88 = .ok (.iconst 4, 1) := by decide +kernel
theorem d_Law_holds_89 : decode b_Law_holds 89 = .ok (.if_icmp .ne 17, 3) := by decide +kernel
theorem d_Law_holds_92 : decode b_Law_holds 92 = .ok (.aload_n 0, 1) := by decide +kernel
theorem d_Law_holds_93 : decode b_Law_holds 93 = .ok (.invokevirtual 214, 3) := by decide +kernel
theorem d_Law_holds_96 : decode b_Law_holds 96 = .ok (.ifCond .eq 42, 3) := by decide +kernel
theorem d_Law_holds_99 : decode b_Law_holds 99 = .ok (.aload_n 0, 1) := by decide +kernel
theorem d_Law_holds_100 : decode b_Law_holds 100 = .ok (.invokevirtual 217, 3) := by decide +kernel
theorem d_Law_holds_103 : decode b_Law_holds 103 = .ok (.ifCond .eq 35, 3) := by decide +kernel
theorem d_Law_holds_106 : decode b_Law_holds 106 = .ok (.iload_n 2, 1) := by decide +kernel
theorem d_Law_holds_107 : decode b_Law_holds 107 = .ok (.bipush 19, 2) := by decide +kernel
theorem d_Law_holds_109 : decode b_Law_holds 109 = .ok (.irem, 1) := by decide +kernel
theorem d_Law_holds_110 : decode b_Law_holds 110 = .ok (.bipush 12, 2) := by decide +kernel
theorem d_Law_holds_112 : decode b_Law_holds 112 = .ok (.if_icmp .ne 10, 3) := by decide +kernel
theorem d_Law_holds_115 : decode b_Law_holds 115 = .ok (.aload_n 0, 1) := by decide +kernel
theorem d_Law_holds_116 : decode b_Law_holds 116 = .ok (.invokevirtual 220, 3) := by decide +kernel
theorem d_Law_holds_119 : decode b_Law_holds 119 = .ok (.ifCond .eq 19, 3) := by decide +kernel
theorem d_Law_holds_122 : decode b_Law_holds 122 = .ok (.iload_n 2, 1) := by decide +kernel
theorem d_Law_holds_123 : decode b_Law_holds 123 = .ok (.bipush 23, 2) := by decide +kernel
theorem d_Law_holds_125 : decode b_Law_holds 125 = .ok (.irem, 1) := by decide +kernel
theorem d_Law_holds_126 : decode b_Law_holds 126 = .ok (.bipush 17, 2) := by decide +kernel
theorem d_Law_holds_128 : decode b_Law_holds 128 = .ok (.if_icmp .ne 12, 3) := by decide +kernel
theorem d_Law_holds_131 : decode b_Law_holds 131 = .ok (.aload_n 0, 1) := by decide +kernel
theorem d_Law_holds_132 : decode b_Law_holds 132 = .ok (.invokevirtual 223, 3) := by decide +kernel
theorem d_Law_holds_135 : decode b_Law_holds 135 = .ok (.ifCond .ne 5, 3) := by decide +kernel
theorem d_Law_holds_138 : decode b_Law_holds 138 = .ok (.iconst 0, 1) := by decide +kernel
theorem d_Law_holds_139 : decode b_Law_holds 139 = .ok (.ireturn, 1) := by decide +kernel
theorem d_Law_holds_140 : decode b_Law_holds 140 = .ok (.iinc 2 1, 3) := by decide +kernel
theorem d_Law_holds_143 : decode b_Law_holds 143 = .ok (.goto (-127), 3) := by decide +kernel
theorem d_Law_holds_146 : decode b_Law_holds 146 = .ok (.aload_n 0, 1) := by decide +kernel
theorem d_Law_holds_147 : decode b_Law_holds 147 = .ok (.invokevirtual 214, 3) := by decide +kernel
theorem d_Law_holds_150 : decode b_Law_holds 150 = .ok (.ifCond .eq 36, 3) := by decide +kernel
theorem d_Law_holds_153 : decode b_Law_holds 153 = .ok (.aload_n 0, 1) := by decide +kernel
theorem d_Law_holds_154 : decode b_Law_holds 154 = .ok (.invokevirtual 217, 3) := by decide +kernel
theorem d_Law_holds_157 : decode b_Law_holds 157 = .ok (.ifCond .eq 29, 3) := by decide +kernel
theorem d_Law_holds_160 : decode b_Law_holds 160 = .ok (.aload_n 0, 1) := by decide +kernel
theorem d_Law_holds_161 : decode b_Law_holds 161 = .ok (.invokevirtual 220, 3) := by decide +kernel
theorem d_Law_holds_164 : decode b_Law_holds 164 = .ok (.ifCond .eq 22, 3) := by decide +kernel
theorem d_Law_holds_167 : decode b_Law_holds 167 = .ok (.aload_n 0, 1) := by decide +kernel
theorem d_Law_holds_168 : decode b_Law_holds 168 = .ok (.getfield 10, 3) := by decide +kernel
theorem d_Law_holds_171 : decode b_Law_holds 171 = .ok (.sipush 501, 3) := by decide +kernel
theorem d_Law_holds_174 : decode b_Law_holds 174 = .ok (.invokestatic 179, 3) := by decide +kernel
theorem d_Law_holds_177 : decode b_Law_holds 177 = .ok (.bipush (-102), 2) := by decide +kernel
theorem d_Law_holds_179 : decode b_Law_holds 179 = .ok (.if_icmp .ne 7, 3) := by decide +kernel
theorem d_Law_holds_182 : decode b_Law_holds 182 = .ok (.iconst 1, 1) := by decide +kernel
theorem d_Law_holds_183 : decode b_Law_holds 183 = .ok (.goto 4, 3) := by decide +kernel
theorem d_Law_holds_186 : decode b_Law_holds 186 = .ok (.iconst 0, 1) := by decide +kernel
theorem d_Law_holds_187 : decode b_Law_holds 187 = .ok (.ireturn, 1) := by decide +kernel
def L_Law_holds (G : zLA) : Nat → Nat → Int32 → zSt → Option (Int32 × zSt)
  | 0, _, _, _ => none
  | n + 1, 0, x2, σ => if (60 : Int32) ≤ x2 then ((F_Law_sourcesAreSo G σ).bind fun r6 => if r6 = 0 then some ((0 : Int32), σ) else ((F_Law_queuesAreSo G σ).bind fun r8 => if r8 = 0 then some ((0 : Int32), σ) else (bd2 (F_Law_foretells G σ) fun r10 σ11 => if r10 = 0 then some ((0 : Int32), σ11) else (bd2 (F_Law_runX (501 : Int32) σ11) fun r13 σ14 => if r13 = (-102 : Int32) then some ((1 : Int32), σ14) else some ((0 : Int32), σ14))))) else (bd2 (F_Law_draw G (4 : Int32) σ) fun r20 σ21 => if r20 = 0 then (bd2 (F_Law_says G σ21) fun r23 σ24 => if r23 = 0 then some ((0 : Int32), σ24) else L_Law_holds G n 1 x2 σ24) else L_Law_holds G n 1 x2 σ21)
  | n + 1, 1, x2, σ => bd2 (F_Law_minute G σ) fun r29 σ30 => if r29 = 0 then some ((0 : Int32), σ30) else (bd2 (F_Law_draw G (6 : Int32) σ30) fun r32 σ33 => if r32 = 0 then ((F_Law_count (6 : Int32) σ33).bind fun r35 => bd2 (F_Law_draw G r35 σ33) fun r37 σ38 => bd2 (F_Law_draw G (99 : Int32) σ38) fun r40 σ41 => bd2 (F_Law_charge r37 r40 σ41) fun r43 σ44 => if 0 ≤ r43 then L_Law_holds G n 2 x2 σ44 else some ((0 : Int32), σ44)) else L_Law_holds G n 2 x2 σ33)
  | n + 1, 2, x2, σ => if (x2 - x2 / (9 : Int32) * (9 : Int32)) = (4 : Int32) then ((F_Law_sourcesAreSo G σ).bind fun r54 => if r54 = 0 then some ((0 : Int32), σ) else ((F_Law_queuesAreSo G σ).bind fun r56 => if r56 = 0 then some ((0 : Int32), σ) else (if (x2 - x2 / (19 : Int32) * (19 : Int32)) = (12 : Int32) then (bd2 (F_Law_foretells G σ) fun r58 σ59 => if r58 = 0 then some ((0 : Int32), σ59) else L_Law_holds G n 3 x2 σ59) else L_Law_holds G n 3 x2 σ))) else (if (x2 - x2 / (19 : Int32) * (19 : Int32)) = (12 : Int32) then (bd2 (F_Law_foretells G σ) fun r49 σ50 => if r49 = 0 then some ((0 : Int32), σ50) else L_Law_holds G n 3 x2 σ50) else L_Law_holds G n 3 x2 σ)
  | n + 1, 3, x2, σ => if (x2 - x2 / (23 : Int32) * (23 : Int32)) = (17 : Int32) then (bd2 (F_Law_tries G σ) fun r66 σ67 => if r66 = 0 then some ((0 : Int32), σ67) else L_Law_holds G n 0 (x2 + (1 : Int32)) σ67) else L_Law_holds G n 0 (x2 + (1 : Int32)) σ
  | _ + 1, _, _, _ => none
theorem e_Law_holds_0 (G : zLA) (n : Nat) (x2 : Int32) (σ : zSt) : L_Law_holds G (n + 1) 0 x2 σ = (if (60 : Int32) ≤ x2 then ((F_Law_sourcesAreSo G σ).bind fun r6 => if r6 = 0 then some ((0 : Int32), σ) else ((F_Law_queuesAreSo G σ).bind fun r8 => if r8 = 0 then some ((0 : Int32), σ) else (bd2 (F_Law_foretells G σ) fun r10 σ11 => if r10 = 0 then some ((0 : Int32), σ11) else (bd2 (F_Law_runX (501 : Int32) σ11) fun r13 σ14 => if r13 = (-102 : Int32) then some ((1 : Int32), σ14) else some ((0 : Int32), σ14))))) else (bd2 (F_Law_draw G (4 : Int32) σ) fun r20 σ21 => if r20 = 0 then (bd2 (F_Law_says G σ21) fun r23 σ24 => if r23 = 0 then some ((0 : Int32), σ24) else L_Law_holds G n 1 x2 σ24) else L_Law_holds G n 1 x2 σ21)) := rfl
theorem e_Law_holds_1 (G : zLA) (n : Nat) (x2 : Int32) (σ : zSt) : L_Law_holds G (n + 1) 1 x2 σ = (bd2 (F_Law_minute G σ) fun r29 σ30 => if r29 = 0 then some ((0 : Int32), σ30) else (bd2 (F_Law_draw G (6 : Int32) σ30) fun r32 σ33 => if r32 = 0 then ((F_Law_count (6 : Int32) σ33).bind fun r35 => bd2 (F_Law_draw G r35 σ33) fun r37 σ38 => bd2 (F_Law_draw G (99 : Int32) σ38) fun r40 σ41 => bd2 (F_Law_charge r37 r40 σ41) fun r43 σ44 => if 0 ≤ r43 then L_Law_holds G n 2 x2 σ44 else some ((0 : Int32), σ44)) else L_Law_holds G n 2 x2 σ33)) := rfl
theorem e_Law_holds_2 (G : zLA) (n : Nat) (x2 : Int32) (σ : zSt) : L_Law_holds G (n + 1) 2 x2 σ = (if (x2 - x2 / (9 : Int32) * (9 : Int32)) = (4 : Int32) then ((F_Law_sourcesAreSo G σ).bind fun r54 => if r54 = 0 then some ((0 : Int32), σ) else ((F_Law_queuesAreSo G σ).bind fun r56 => if r56 = 0 then some ((0 : Int32), σ) else (if (x2 - x2 / (19 : Int32) * (19 : Int32)) = (12 : Int32) then (bd2 (F_Law_foretells G σ) fun r58 σ59 => if r58 = 0 then some ((0 : Int32), σ59) else L_Law_holds G n 3 x2 σ59) else L_Law_holds G n 3 x2 σ))) else (if (x2 - x2 / (19 : Int32) * (19 : Int32)) = (12 : Int32) then (bd2 (F_Law_foretells G σ) fun r49 σ50 => if r49 = 0 then some ((0 : Int32), σ50) else L_Law_holds G n 3 x2 σ50) else L_Law_holds G n 3 x2 σ)) := rfl
theorem e_Law_holds_3 (G : zLA) (n : Nat) (x2 : Int32) (σ : zSt) : L_Law_holds G (n + 1) 3 x2 σ = (if (x2 - x2 / (23 : Int32) * (23 : Int32)) = (17 : Int32) then (bd2 (F_Law_tries G σ) fun r66 σ67 => if r66 = 0 then some ((0 : Int32), σ67) else L_Law_holds G n 0 (x2 + (1 : Int32)) σ67) else L_Law_holds G n 0 (x2 + (1 : Int32)) σ) := rfl
set_option maxHeartbeats 4000000 in
set_option maxRecDepth 100000 in
theorem w_Law_holds {l : Launch} {G : zLA} {p : Program} {e : Env} {s : State} {m : MethodId} {args : Array Value} {below : List Frame} {meth : Method} {c : Code} (C : zCx G p s m args meth c "VillageWavesLaw" b_Law_holds 3 (some .boolean)) (hst : l.stackTraces = false) (hx : zxl G) (hm : zml G) {r : Int32} {σ' : zSt} : ∀ n : Nat, (∀ (x2 : Int32) (σ : zSt), L_Law_holds G n 0 x2 σ = some (r, σ') → zWV G p l e rm_Law_holds s m args below meth c 3 0 0 (zQ G below args s rm_Law_holds (some (.int r)) σ') 16 [(0, .ref (zad G 4 80)), (2, .int x2)] [] σ) ∧ (∀ (x2 : Int32) (σ : zSt), L_Law_holds G n 1 x2 σ = some (r, σ') → zWV G p l e rm_Law_holds s m args below meth c 3 0 0 (zQ G below args s rm_Law_holds (some (.int r)) σ') 37 [(0, .ref (zad G 4 80)), (2, .int x2)] [] σ) ∧ (∀ (x2 : Int32) (σ : zSt), L_Law_holds G n 2 x2 σ = some (r, σ') → zWV G p l e rm_Law_holds s m args below meth c 3 0 0 (zQ G below args s rm_Law_holds (some (.int r)) σ') 84 [(0, .ref (zad G 4 80)), (2, .int x2)] [] σ) ∧ (∀ (x2 : Int32) (σ : zSt), L_Law_holds G n 3 x2 σ = some (r, σ') → zWV G p l e rm_Law_holds s m args below meth c 3 0 0 (zQ G below args s rm_Law_holds (some (.int r)) σ') 122 [(0, .ref (zad G 4 80)), (2, .int x2)] [] σ) := by
  intro n
  induction n with
  | zero => exact ⟨fun _ _ hf => (by cases hf), fun _ _ hf => (by cases hf), fun _ _ hf => (by cases hf), fun _ _ hf => (by cases hf)⟩
  | succ n ih =>
    refine ⟨?_, ?_, ?_, ?_⟩
    · intro x2 σ hf
      rw [e_Law_holds_0] at hf
      refine z_iload_n C d_Law_holds_16 1 rfl rfl ?_
      refine z_bipush C d_Law_holds_17 zkb_60 ?_
      refine z_icmp_ge (tgt := 146) C d_Law_holds_19 rfl (fun h27 => ?_) (fun h27 => ?_)
      · have hf := iff_t hf h27
        refine z_aload_n C d_Law_holds_146 0 rfl rfl ?_
        obtain ⟨r6, h5, hf⟩ := bd_s hf
        refine z_cVi C kl_Law_214 rfl (c_Law_sourcesAreSo hx hm h5) hm rfl rfl rfl (Nat.le_of_ble_eq_true rfl) ⟨(Nat.le_of_ble_eq_true rfl), (Nat.le_of_ble_eq_true rfl)⟩ ⟨(Nat.le_of_ble_eq_true rfl), (Nat.le_of_ble_eq_true rfl)⟩ d_Law_holds_147 ?_
        refine z_if_eq (tgt := 186) C d_Law_holds_150 rfl (fun h18 => ?_) (fun h18 => ?_)
        · have hf := iff_t hf h18
          refine z_iconst C d_Law_holds_186 zki_0 ?_
          cases hf
          exact z_zret C rfl rfl (Nat.le_of_ble_eq_true rfl) (Nat.le_of_ble_eq_true rfl) d_Law_holds_187
        · have hf := iff_f hf h18
          refine z_aload_n C d_Law_holds_153 0 rfl rfl ?_
          obtain ⟨r8, h7, hf⟩ := bd_s hf
          refine z_cVi C kl_Law_217 rfl (c_Law_queuesAreSo hx hm h7) hm rfl rfl rfl (Nat.le_of_ble_eq_true rfl) ⟨(Nat.le_of_ble_eq_true rfl), (Nat.le_of_ble_eq_true rfl)⟩ ⟨(Nat.le_of_ble_eq_true rfl), (Nat.le_of_ble_eq_true rfl)⟩ d_Law_holds_154 ?_
          refine z_if_eq (tgt := 186) C d_Law_holds_157 rfl (fun h17 => ?_) (fun h17 => ?_)
          · have hf := iff_t hf h17
            refine z_iconst C d_Law_holds_186 zki_0 ?_
            cases hf
            exact z_zret C rfl rfl (Nat.le_of_ble_eq_true rfl) (Nat.le_of_ble_eq_true rfl) d_Law_holds_187
          · have hf := iff_f hf h17
            refine z_aload_n C d_Law_holds_160 0 rfl rfl ?_
            obtain ⟨r10, σ11, h9, hf⟩ := bd2_s hf
            refine z_cVi C kl_Law_220 rfl (c_Law_foretells hx hm h9) hm rfl rfl rfl (Nat.le_of_ble_eq_true rfl) ⟨(Nat.le_of_ble_eq_true rfl), (Nat.le_of_ble_eq_true rfl)⟩ ⟨(Nat.le_of_ble_eq_true rfl), (Nat.le_of_ble_eq_true rfl)⟩ d_Law_holds_161 ?_
            refine z_if_eq (tgt := 186) C d_Law_holds_164 rfl (fun h16 => ?_) (fun h16 => ?_)
            · have hf := iff_t hf h16
              refine z_iconst C d_Law_holds_186 zki_0 ?_
              cases hf
              exact z_zret C rfl rfl (Nat.le_of_ble_eq_true rfl) (Nat.le_of_ble_eq_true rfl) d_Law_holds_187
            · have hf := iff_f hf h16
              refine z_aload_n C d_Law_holds_167 0 rfl rfl ?_
              refine gf_Law_10 C hm rfl rfl d_Law_holds_168 ?_
              refine z_sipush C d_Law_holds_171 zks_501 ?_
              obtain ⟨r13, σ14, h12, hf⟩ := bd2_s hf
              refine z_cHi C kh_Law_run (c_Law_runX hx hst h12) rfl rfl (Nat.le_of_ble_eq_true rfl) ⟨(Nat.le_of_ble_eq_true rfl), (Nat.le_of_ble_eq_true rfl)⟩ ⟨(Nat.le_of_ble_eq_true rfl), (Nat.le_of_ble_eq_true rfl)⟩ d_Law_holds_174 ?_
              refine z_bipush C d_Law_holds_177 zkb_m102 ?_
              refine z_icmp_ne (tgt := 186) C d_Law_holds_179 rfl (fun h15 => ?_) (fun h15 => ?_)
              · have hf := iff_f hf h15
                refine z_iconst C d_Law_holds_186 zki_0 ?_
                cases hf
                exact z_zret C rfl rfl (Nat.le_of_ble_eq_true rfl) (Nat.le_of_ble_eq_true rfl) d_Law_holds_187
              · have hf := iff_t hf h15
                refine z_iconst C d_Law_holds_182 zki_1 ?_
                refine z_goto (tgt := 187) C d_Law_holds_183 rfl ?_
                cases hf
                exact z_zret C rfl rfl (Nat.le_of_ble_eq_true rfl) (Nat.le_of_ble_eq_true rfl) d_Law_holds_187
      · have hf := iff_f hf h27
        refine z_aload_n C d_Law_holds_22 0 rfl rfl ?_
        refine z_iconst C d_Law_holds_23 zki_4 ?_
        obtain ⟨r20, σ21, h19, hf⟩ := bd2_s hf
        refine z_cVi C kl_Law_128 rfl (c_Law_draw hx hm h19) hm rfl rfl rfl (Nat.le_of_ble_eq_true rfl) ⟨(Nat.le_of_ble_eq_true rfl), (Nat.le_of_ble_eq_true rfl)⟩ ⟨(Nat.le_of_ble_eq_true rfl), (Nat.le_of_ble_eq_true rfl)⟩ d_Law_holds_24 ?_
        refine z_if_ne (tgt := 37) C d_Law_holds_27 rfl (fun h26 => ?_) (fun h26 => ?_)
        · have hf := iff_f hf h26
          have hw := ih.2.1 _ _ hf
          exact z_sub [0, 1] rfl hw
        · have hf := iff_t hf h26
          refine z_aload_n C d_Law_holds_30 0 rfl rfl ?_
          obtain ⟨r23, σ24, h22, hf⟩ := bd2_s hf
          refine z_cVi C kl_Law_206 rfl (c_Law_says hx hm h22) hm rfl rfl rfl (Nat.le_of_ble_eq_true rfl) ⟨(Nat.le_of_ble_eq_true rfl), (Nat.le_of_ble_eq_true rfl)⟩ ⟨(Nat.le_of_ble_eq_true rfl), (Nat.le_of_ble_eq_true rfl)⟩ d_Law_holds_31 ?_
          refine z_if_eq (tgt := 82) C d_Law_holds_34 rfl (fun h25 => ?_) (fun h25 => ?_)
          · have hf := iff_t hf h25
            refine z_iconst C d_Law_holds_82 zki_0 ?_
            cases hf
            exact z_zret C rfl rfl (Nat.le_of_ble_eq_true rfl) (Nat.le_of_ble_eq_true rfl) d_Law_holds_83
          · have hf := iff_f hf h25
            have hw := ih.2.1 _ _ hf
            exact z_sub [0, 1] rfl hw
    · intro x2 σ hf
      rw [e_Law_holds_1] at hf
      refine z_aload_n C d_Law_holds_37 0 rfl rfl ?_
      obtain ⟨r29, σ30, h28, hf⟩ := bd2_s hf
      refine z_cVi C kl_Law_209 rfl (c_Law_minute hx hm h28) hm rfl rfl rfl (Nat.le_of_ble_eq_true rfl) ⟨(Nat.le_of_ble_eq_true rfl), (Nat.le_of_ble_eq_true rfl)⟩ ⟨(Nat.le_of_ble_eq_true rfl), (Nat.le_of_ble_eq_true rfl)⟩ d_Law_holds_38 ?_
      refine z_if_eq (tgt := 82) C d_Law_holds_41 rfl (fun h47 => ?_) (fun h47 => ?_)
      · have hf := iff_t hf h47
        refine z_iconst C d_Law_holds_82 zki_0 ?_
        cases hf
        exact z_zret C rfl rfl (Nat.le_of_ble_eq_true rfl) (Nat.le_of_ble_eq_true rfl) d_Law_holds_83
      · have hf := iff_f hf h47
        refine z_aload_n C d_Law_holds_44 0 rfl rfl ?_
        refine z_bipush C d_Law_holds_45 zkb_6 ?_
        obtain ⟨r32, σ33, h31, hf⟩ := bd2_s hf
        refine z_cVi C kl_Law_128 rfl (c_Law_draw hx hm h31) hm rfl rfl rfl (Nat.le_of_ble_eq_true rfl) ⟨(Nat.le_of_ble_eq_true rfl), (Nat.le_of_ble_eq_true rfl)⟩ ⟨(Nat.le_of_ble_eq_true rfl), (Nat.le_of_ble_eq_true rfl)⟩ d_Law_holds_47 ?_
        refine z_if_ne (tgt := 84) C d_Law_holds_50 rfl (fun h46 => ?_) (fun h46 => ?_)
        · have hf := iff_f hf h46
          have hw := ih.2.2.1 _ _ hf
          exact z_sub [0, 1] rfl hw
        · have hf := iff_t hf h46
          refine z_aload_n C d_Law_holds_53 0 rfl rfl ?_
          refine gf_Law_10 C hm rfl rfl d_Law_holds_54 ?_
          refine z_aload_n C d_Law_holds_57 0 rfl rfl ?_
          refine z_aload_n C d_Law_holds_58 0 rfl rfl ?_
          refine gf_Law_10 C hm rfl rfl d_Law_holds_59 ?_
          refine z_bipush C d_Law_holds_62 zkb_6 ?_
          obtain ⟨r35, h34, hf⟩ := bd_s hf
          refine z_cHi C kh_Law_count (c_Law_count hx h34) rfl rfl (Nat.le_of_ble_eq_true rfl) ⟨(Nat.le_of_ble_eq_true rfl), (Nat.le_of_ble_eq_true rfl)⟩ ⟨(Nat.le_of_ble_eq_true rfl), (Nat.le_of_ble_eq_true rfl)⟩ d_Law_holds_64 ?_
          obtain ⟨r37, σ38, h36, hf⟩ := bd2_s hf
          refine z_cVi C kl_Law_128 rfl (c_Law_draw hx hm h36) hm rfl rfl rfl (Nat.le_of_ble_eq_true rfl) ⟨(Nat.le_of_ble_eq_true rfl), (Nat.le_of_ble_eq_true rfl)⟩ ⟨(Nat.le_of_ble_eq_true rfl), (Nat.le_of_ble_eq_true rfl)⟩ d_Law_holds_67 ?_
          refine z_aload_n C d_Law_holds_70 0 rfl rfl ?_
          refine z_bipush C d_Law_holds_71 zkb_99 ?_
          obtain ⟨r40, σ41, h39, hf⟩ := bd2_s hf
          refine z_cVi C kl_Law_128 rfl (c_Law_draw hx hm h39) hm rfl rfl rfl (Nat.le_of_ble_eq_true rfl) ⟨(Nat.le_of_ble_eq_true rfl), (Nat.le_of_ble_eq_true rfl)⟩ ⟨(Nat.le_of_ble_eq_true rfl), (Nat.le_of_ble_eq_true rfl)⟩ d_Law_holds_73 ?_
          obtain ⟨r43, σ44, h42, hf⟩ := bd2_s hf
          refine z_cHi C kh_Law_charge (c_Law_charge hx h42) rfl rfl (Nat.le_of_ble_eq_true rfl) ⟨(Nat.le_of_ble_eq_true rfl), (Nat.le_of_ble_eq_true rfl)⟩ ⟨(Nat.le_of_ble_eq_true rfl), (Nat.le_of_ble_eq_true rfl)⟩ d_Law_holds_76 ?_
          refine z_if_ge (tgt := 84) C d_Law_holds_79 rfl (fun h45 => ?_) (fun h45 => ?_)
          · have hf := iff_t hf h45
            have hw := ih.2.2.1 _ _ hf
            exact z_sub [0, 1] rfl hw
          · have hf := iff_f hf h45
            refine z_iconst C d_Law_holds_82 zki_0 ?_
            cases hf
            exact z_zret C rfl rfl (Nat.le_of_ble_eq_true rfl) (Nat.le_of_ble_eq_true rfl) d_Law_holds_83
    · intro x2 σ hf
      rw [e_Law_holds_2] at hf
      refine z_iload_n C d_Law_holds_84 1 rfl rfl ?_
      refine z_bipush C d_Law_holds_85 zkb_9 ?_
      refine z_irem C d_Law_holds_87 (by decide) ?_
      refine z_iconst C d_Law_holds_88 zki_4 ?_
      refine z_icmp_ne (tgt := 106) C d_Law_holds_89 rfl (fun h64 => ?_) (fun h64 => ?_)
      · have hf := iff_f hf h64
        refine z_iload_n C d_Law_holds_106 1 rfl rfl ?_
        refine z_bipush C d_Law_holds_107 zkb_19 ?_
        refine z_irem C d_Law_holds_109 (by decide) ?_
        refine z_bipush C d_Law_holds_110 zkb_12 ?_
        refine z_icmp_ne (tgt := 122) C d_Law_holds_112 rfl (fun h52 => ?_) (fun h52 => ?_)
        · have hf := iff_f hf h52
          have hw := ih.2.2.2 _ _ hf
          exact z_sub [0, 1] rfl hw
        · have hf := iff_t hf h52
          refine z_aload_n C d_Law_holds_115 0 rfl rfl ?_
          obtain ⟨r49, σ50, h48, hf⟩ := bd2_s hf
          refine z_cVi C kl_Law_220 rfl (c_Law_foretells hx hm h48) hm rfl rfl rfl (Nat.le_of_ble_eq_true rfl) ⟨(Nat.le_of_ble_eq_true rfl), (Nat.le_of_ble_eq_true rfl)⟩ ⟨(Nat.le_of_ble_eq_true rfl), (Nat.le_of_ble_eq_true rfl)⟩ d_Law_holds_116 ?_
          refine z_if_eq (tgt := 138) C d_Law_holds_119 rfl (fun h51 => ?_) (fun h51 => ?_)
          · have hf := iff_t hf h51
            refine z_iconst C d_Law_holds_138 zki_0 ?_
            cases hf
            exact z_zret C rfl rfl (Nat.le_of_ble_eq_true rfl) (Nat.le_of_ble_eq_true rfl) d_Law_holds_139
          · have hf := iff_f hf h51
            have hw := ih.2.2.2 _ _ hf
            exact z_sub [0, 1] rfl hw
      · have hf := iff_t hf h64
        refine z_aload_n C d_Law_holds_92 0 rfl rfl ?_
        obtain ⟨r54, h53, hf⟩ := bd_s hf
        refine z_cVi C kl_Law_214 rfl (c_Law_sourcesAreSo hx hm h53) hm rfl rfl rfl (Nat.le_of_ble_eq_true rfl) ⟨(Nat.le_of_ble_eq_true rfl), (Nat.le_of_ble_eq_true rfl)⟩ ⟨(Nat.le_of_ble_eq_true rfl), (Nat.le_of_ble_eq_true rfl)⟩ d_Law_holds_93 ?_
        refine z_if_eq (tgt := 138) C d_Law_holds_96 rfl (fun h63 => ?_) (fun h63 => ?_)
        · have hf := iff_t hf h63
          refine z_iconst C d_Law_holds_138 zki_0 ?_
          cases hf
          exact z_zret C rfl rfl (Nat.le_of_ble_eq_true rfl) (Nat.le_of_ble_eq_true rfl) d_Law_holds_139
        · have hf := iff_f hf h63
          refine z_aload_n C d_Law_holds_99 0 rfl rfl ?_
          obtain ⟨r56, h55, hf⟩ := bd_s hf
          refine z_cVi C kl_Law_217 rfl (c_Law_queuesAreSo hx hm h55) hm rfl rfl rfl (Nat.le_of_ble_eq_true rfl) ⟨(Nat.le_of_ble_eq_true rfl), (Nat.le_of_ble_eq_true rfl)⟩ ⟨(Nat.le_of_ble_eq_true rfl), (Nat.le_of_ble_eq_true rfl)⟩ d_Law_holds_100 ?_
          refine z_if_eq (tgt := 138) C d_Law_holds_103 rfl (fun h62 => ?_) (fun h62 => ?_)
          · have hf := iff_t hf h62
            refine z_iconst C d_Law_holds_138 zki_0 ?_
            cases hf
            exact z_zret C rfl rfl (Nat.le_of_ble_eq_true rfl) (Nat.le_of_ble_eq_true rfl) d_Law_holds_139
          · have hf := iff_f hf h62
            refine z_iload_n C d_Law_holds_106 1 rfl rfl ?_
            refine z_bipush C d_Law_holds_107 zkb_19 ?_
            refine z_irem C d_Law_holds_109 (by decide) ?_
            refine z_bipush C d_Law_holds_110 zkb_12 ?_
            refine z_icmp_ne (tgt := 122) C d_Law_holds_112 rfl (fun h61 => ?_) (fun h61 => ?_)
            · have hf := iff_f hf h61
              have hw := ih.2.2.2 _ _ hf
              exact z_sub [0, 1] rfl hw
            · have hf := iff_t hf h61
              refine z_aload_n C d_Law_holds_115 0 rfl rfl ?_
              obtain ⟨r58, σ59, h57, hf⟩ := bd2_s hf
              refine z_cVi C kl_Law_220 rfl (c_Law_foretells hx hm h57) hm rfl rfl rfl (Nat.le_of_ble_eq_true rfl) ⟨(Nat.le_of_ble_eq_true rfl), (Nat.le_of_ble_eq_true rfl)⟩ ⟨(Nat.le_of_ble_eq_true rfl), (Nat.le_of_ble_eq_true rfl)⟩ d_Law_holds_116 ?_
              refine z_if_eq (tgt := 138) C d_Law_holds_119 rfl (fun h60 => ?_) (fun h60 => ?_)
              · have hf := iff_t hf h60
                refine z_iconst C d_Law_holds_138 zki_0 ?_
                cases hf
                exact z_zret C rfl rfl (Nat.le_of_ble_eq_true rfl) (Nat.le_of_ble_eq_true rfl) d_Law_holds_139
              · have hf := iff_f hf h60
                have hw := ih.2.2.2 _ _ hf
                exact z_sub [0, 1] rfl hw
    · intro x2 σ hf
      rw [e_Law_holds_3] at hf
      refine z_iload_n C d_Law_holds_122 1 rfl rfl ?_
      refine z_bipush C d_Law_holds_123 zkb_23 ?_
      refine z_irem C d_Law_holds_125 (by decide) ?_
      refine z_bipush C d_Law_holds_126 zkb_17 ?_
      refine z_icmp_ne (tgt := 140) C d_Law_holds_128 rfl (fun h69 => ?_) (fun h69 => ?_)
      · have hf := iff_f hf h69
        refine z_iinc C d_Law_holds_140 1 rfl zki_1 (by decide) ?_
        refine z_lv (lv1 := [(2, .int (x2 + (1 : Int32))), (0, .ref (zad G 4 80))]) rfl ?_
        refine z_goto (tgt := 16) C d_Law_holds_143 rfl ?_
        have hw := ih.1 _ _ hf
        exact z_sub [1, 0] rfl hw
      · have hf := iff_t hf h69
        refine z_aload_n C d_Law_holds_131 0 rfl rfl ?_
        obtain ⟨r66, σ67, h65, hf⟩ := bd2_s hf
        refine z_cVi C kl_Law_223 rfl (c_Law_tries hx hm h65) hm rfl rfl rfl (Nat.le_of_ble_eq_true rfl) ⟨(Nat.le_of_ble_eq_true rfl), (Nat.le_of_ble_eq_true rfl)⟩ ⟨(Nat.le_of_ble_eq_true rfl), (Nat.le_of_ble_eq_true rfl)⟩ d_Law_holds_132 ?_
        refine z_if_ne (tgt := 140) C d_Law_holds_135 rfl (fun h68 => ?_) (fun h68 => ?_)
        · have hf := iff_f hf h68
          refine z_iinc C d_Law_holds_140 1 rfl zki_1 (by decide) ?_
          refine z_lv (lv1 := [(2, .int (x2 + (1 : Int32))), (0, .ref (zad G 4 80))]) rfl ?_
          refine z_goto (tgt := 16) C d_Law_holds_143 rfl ?_
          have hw := ih.1 _ _ hf
          exact z_sub [1, 0] rfl hw
        · have hf := iff_t hf h68
          refine z_iconst C d_Law_holds_138 zki_0 ?_
          cases hf
          exact z_zret C rfl rfl (Nat.le_of_ble_eq_true rfl) (Nat.le_of_ble_eq_true rfl) d_Law_holds_139
def F_Law_holds (G : zLA) (σ : zSt) : Option (Int32 × zSt) :=
  bd2 (F_Law_builds G (zst σ 4 80 1 (1 : Int32))) fun r2 σ3 => if r2 = 0 then some ((0 : Int32), σ3) else L_Law_holds G zK 0 (0 : Int32) σ3
set_option maxHeartbeats 4000000 in
set_option maxRecDepth 100000 in
theorem c_Law_holds {l : Launch} {G : zLA} (hst : l.stackTraces = false) (hx : zxl G) (hm : zml G) {σ : zSt} {r : Int32} {σ' : zSt} (hf : F_Law_holds G σ = some (r, σ')) : zM l G y_Law_holds (zws y_Law_holds b_Law_holds 3 (some .boolean)) rm_Law_holds [.ref (zad G 4 80), .ref (zsa G 3)] σ (some (.int r)) σ' := by
  refine z_ofM (own := "VillageWavesLaw") (lv := [(0, .ref (zad G 4 80)), (1, .ref (zsa G 3))]) (by decide +kernel) rfl rfl (Nat.le_of_ble_eq_true rfl) (fun p e s m args below meth c C => ?_)
  rw [F_Law_holds] at hf
  refine z_aload_n C d_Law_holds_0 0 rfl rfl ?_
  refine z_aload_n C d_Law_holds_1 1 rfl rfl ?_
  refine pf_scr C hm d_Law_holds_2 ?_
  refine z_aload_n C d_Law_holds_5 0 rfl rfl ?_
  obtain ⟨r2, σ3, h1, hf⟩ := bd2_s hf
  refine z_cVi C kl_Law_202 rfl (c_Law_builds hx hm h1) hm rfl rfl rfl (Nat.le_of_ble_eq_true rfl) ⟨(Nat.le_of_ble_eq_true rfl), (Nat.le_of_ble_eq_true rfl)⟩ ⟨(Nat.le_of_ble_eq_true rfl), (Nat.le_of_ble_eq_true rfl)⟩ d_Law_holds_6 ?_
  refine z_if_ne (tgt := 14) C d_Law_holds_9 rfl (fun h4 => ?_) (fun h4 => ?_)
  · have hf := iff_f hf h4
    refine z_iconst C d_Law_holds_14 zki_0 ?_
    refine z_istore_n C d_Law_holds_15 rfl (by decide) ?_
    refine z_lv (lv1 := [(2, .int (0 : Int32)), (0, .ref (zad G 4 80)), (1, .ref (zsa G 3))]) rfl ?_
    have hw := (w_Law_holds (l := l) (e := e) (below := below) C hst hx hm zK).1 _ _ hf
    exact z_sub [1, 0] rfl hw
  · have hf := iff_t hf h4
    refine z_iconst C d_Law_holds_12 zki_0 ?_
    cases hf
    exact z_zret C rfl rfl (Nat.le_of_ble_eq_true rfl) (Nat.le_of_ble_eq_true rfl) d_Law_holds_13
