abbrev rm_Law_builds : Room := { frames := 9, cells := 0, slots := 0, locals := 165 }
theorem d_Law_builds_0 : decode b_Law_builds 0 = .ok (.iconst 2, 1) := by decide +kernel
theorem d_Law_builds_1 : decode b_Law_builds 1 = .ok (.aload_n 0, 1) := by decide +kernel
theorem d_Law_builds_2 : decode b_Law_builds 2 = .ok (.bipush 11, 2) := by decide +kernel
theorem d_Law_builds_4 : decode b_Law_builds 4 = .ok (.invokevirtual 128, 3) := by decide +kernel
theorem d_Law_builds_7 : decode b_Law_builds 7 = .ok (.iadd, 1) := by decide +kernel
theorem d_Law_builds_8 : decode b_Law_builds 8 = .ok (.istore_n 1, 1) := by decide +kernel
theorem d_Law_builds_9 : decode b_Law_builds 9 = .ok (.iconst 0, 1) := by decide +kernel
theorem d_Law_builds_10 : decode b_Law_builds 10 = .ok (.istore_n 2, 1) := by decide +kernel
theorem d_Law_builds_11 : decode b_Law_builds 11 = .ok (.iload_n 2, 1) := by decide +kernel
theorem d_Law_builds_12 : decode b_Law_builds 12 = .ok (.iload_n 1, 1) := by decide +kernel
theorem d_Law_builds_13 : decode b_Law_builds 13 = .ok (.if_icmp .ge 100, 3) := by decide +kernel
theorem d_Law_builds_16 : decode b_Law_builds 16 = .ok (.aload_n 0, 1) := by decide +kernel
theorem d_Law_builds_17 : decode b_Law_builds 17 = .ok (.getfield 10, 3) := by decide +kernel
theorem d_Law_builds_20 : decode b_Law_builds 20 = .ok (.bipush 30, 2) := by decide +kernel
theorem d_Law_builds_22 : decode b_Law_builds 22 = .ok (.aload_n 0, 1) := by decide +kernel
theorem d_Law_builds_23 : decode b_Law_builds 23 = .ok (.bipush 40, 2) := by decide +kernel
theorem d_Law_builds_25 : decode b_Law_builds 25 = .ok (.invokevirtual 128, 3) := by decide +kernel
theorem d_Law_builds_28 : decode b_Law_builds 28 = .ok (.iadd, 1) := by decide +kernel
theorem d_Law_builds_29 : decode b_Law_builds 29 = .ok (.bipush 30, 2) := by decide +kernel
theorem d_Law_builds_31 : decode b_Law_builds 31 = .ok (.aload_n 0, 1) := by decide +kernel
theorem d_Law_builds_32 : decode b_Law_builds 32 = .ok (.bipush 40, 2) := by decide +kernel
theorem d_Law_builds_34 : decode b_Law_builds 34 = .ok (.invokevirtual 128, 3) := by decide +kernel
theorem d_Law_builds_37 : decode b_Law_builds 37 = .ok (.iadd, 1) := by decide +kernel
theorem d_Law_builds_38 : decode b_Law_builds 38 = .ok (.bipush 10, 2) := by decide +kernel
theorem d_Law_builds_40 : decode b_Law_builds 40 = .ok (.aload_n 0, 1) := by decide +kernel
theorem d_Law_builds_41 : decode b_Law_builds 41 = .ok (.bipush 40, 2) := by decide +kernel
theorem d_Law_builds_43 : decode b_Law_builds 43 = .ok (.invokevirtual 128, 3) := by decide +kernel
theorem d_Law_builds_46 : decode b_Law_builds 46 = .ok (.iadd, 1) := by decide +kernel
theorem d_Law_builds_47 : decode b_Law_builds 47 = .ok (.bipush 100, 2) := by decide +kernel
theorem d_Law_builds_49 : decode b_Law_builds 49 = .ok (.aload_n 0, 1) := by decide +kernel
theorem d_Law_builds_50 : decode b_Law_builds 50 = .ok (.sipush 900, 3) := by decide +kernel
theorem d_Law_builds_53 : decode b_Law_builds 53 = .ok (.invokevirtual 128, 3) := by decide +kernel
theorem d_Law_builds_56 : decode b_Law_builds 56 = .ok (.iadd, 1) := by decide +kernel
theorem d_Law_builds_57 : decode b_Law_builds 57 = .ok (.iconst 1, 1) := by decide +kernel
theorem d_Law_builds_58 : decode b_Law_builds 58 = .ok (.aload_n 0, 1) := by decide +kernel
theorem d_Law_builds_59 : decode b_Law_builds 59 = .ok (.bipush 9, 2) := by decide +kernel
theorem d_Law_builds_61 : decode b_Law_builds 61 = .ok (.invokevirtual 128, 3) := by decide +kernel
theorem d_Law_builds_64 : decode b_Law_builds 64 = .ok (.iadd, 1) := by decide +kernel
theorem d_Law_builds_65 : decode b_Law_builds 65 = .ok (.invokestatic 131, 3) := by decide +kernel
theorem d_Law_builds_68 : decode b_Law_builds 68 = .ok (.iload_n 2, 1) := by decide +kernel
theorem d_Law_builds_69 : decode b_Law_builds 69 = .ok (.if_icmp .eq 5, 3) := by decide +kernel
theorem d_Law_builds_72 : decode b_Law_builds 72 = .ok (.iconst 0, 1) := by decide +kernel
theorem d_Law_builds_73 : decode b_Law_builds 73 = .ok (.ireturn, 1) := by decide +kernel
theorem d_Law_builds_74 : decode b_Law_builds 74 = .ok (.aload_n 0, 1) := by decide +kernel
theorem d_Law_builds_75 : decode b_Law_builds 75 = .ok (.iconst 3, 1) := by decide +kernel
theorem d_Law_builds_76 : decode b_Law_builds 76 = .ok (.invokevirtual 128, 3) := by decide +kernel
theorem d_Law_builds_79 : decode b_Law_builds 79 = .ok (.ifCond .ne 28, 3) := by decide +kernel
theorem d_Law_builds_82 : decode b_Law_builds 82 = .ok (.aload_n 0, 1) := by decide +kernel
theorem d_Law_builds_83 : decode b_Law_builds 83 = .ok (.getfield 10, 3) := by decide +kernel
theorem d_Law_builds_86 : decode b_Law_builds 86 = .ok (.iload_n 2, 1) := by decide +kernel
theorem d_Law_builds_87 : decode b_Law_builds 87 = .ok (.aload_n 0, 1) := by decide +kernel
theorem d_Law_builds_88 : decode b_Law_builds 88 = .ok (.bipush 48, 2) := by decide +kernel
theorem d_Law_builds_90 : decode b_Law_builds 90 = .ok (.invokevirtual 128, 3) := by decide +kernel
theorem d_Law_builds_93 : decode b_Law_builds 93 = .ok (.aload_n 0, 1) := by decide +kernel
theorem d_Law_builds_94 : decode b_Law_builds 94 = .ok (.bipush 48, 2) := by decide +kernel
theorem d_Law_builds_96 : decode b_Law_builds 96 = .ok (.invokevirtual 128, 3) := by decide +kernel
theorem d_Law_builds_99 : decode b_Law_builds 99 = .ok (.invokestatic 134, 3) := by decide +kernel
theorem d_Law_builds_102 : decode b_Law_builds 102 = .ok (.ifCond .eq 5, 3) := by decide +kernel
theorem d_Law_builds_105 : decode b_Law_builds 105 = .ok (.iconst 0, 1) := by decide +kernel
theorem d_Law_builds_106 : decode b_Law_builds 106 = .ok (.ireturn, 1) := by decide +kernel
theorem d_Law_builds_107 : decode b_Law_builds 107 = .ok (.iinc 2 1, 3) := by decide +kernel
theorem d_Law_builds_110 : decode b_Law_builds 110 = .ok (.goto (-99), 3) := by decide +kernel
theorem d_Law_builds_113 : decode b_Law_builds 113 = .ok (.aload_n 0, 1) := by decide +kernel
theorem d_Law_builds_114 : decode b_Law_builds 114 = .ok (.getfield 10, 3) := by decide +kernel
theorem d_Law_builds_117 : decode b_Law_builds 117 = .ok (.iconst 0, 1) := by decide +kernel
theorem d_Law_builds_118 : decode b_Law_builds 118 = .ok (.iconst 1, 1) := by decide +kernel
theorem d_Law_builds_119 : decode b_Law_builds 119 = .ok (.aload_n 0, 1) := by decide +kernel
theorem d_Law_builds_120 : decode b_Law_builds 120 = .ok (.bipush 9, 2) := by decide +kernel
theorem d_Law_builds_122 : decode b_Law_builds 122 = .ok (.invokevirtual 128, 3) := by decide +kernel
theorem d_Law_builds_125 : decode b_Law_builds 125 = .ok (.iadd, 1) := by decide +kernel
theorem d_Law_builds_126 : decode b_Law_builds 126 = .ok (.invokestatic 137, 3) := by decide +kernel
theorem d_Law_builds_129 : decode b_Law_builds 129 = .ok (.iconst 5, 1) := by decide +kernel
theorem d_Law_builds_130 : decode b_Law_builds 130 = .ok (.if_icmp .ne 92, 3) := by decide +kernel
theorem d_Law_builds_133 : decode b_Law_builds 133 = .ok (.aload_n 0, 1) := by decide +kernel
theorem d_Law_builds_134 : decode b_Law_builds 134 = .ok (.getfield 10, 3) := by decide +kernel
theorem d_Law_builds_137 : decode b_Law_builds 137 = .ok (.iconst 1, 1) := by decide +kernel
theorem d_Law_builds_138 : decode b_Law_builds 138 = .ok (.aload_n 0, 1) := by decide +kernel
theorem d_Law_builds_139 : decode b_Law_builds 139 = .ok (.iconst 3, 1) := by decide +kernel
theorem d_Law_builds_140 : decode b_Law_builds 140 = .ok (.invokevirtual 128, 3) := by decide +kernel
theorem d_Law_builds_143 : decode b_Law_builds 143 = .ok (.invokestatic 137, 3) := by decide +kernel
theorem d_Law_builds_146 : decode b_Law_builds 146 = .ok (.iconst 1, 1) := by decide +kernel
theorem d_Law_builds_147 : decode b_Law_builds 147 = .ok (.if_icmp .ne 75, 3) := by decide +kernel
theorem d_Law_builds_150 : decode b_Law_builds 150 = .ok (.aload_n 0, 1) := by decide +kernel
theorem d_Law_builds_151 : decode b_Law_builds 151 = .ok (.getfield 10, 3) := by decide +kernel
theorem d_Law_builds_154 : decode b_Law_builds 154 = .ok (.iconst 3, 1) := by decide +kernel
theorem d_Law_builds_155 : decode b_Law_builds 155 = .ok (.iconst 5, 1) := by decide +kernel
theorem d_Law_builds_156 : decode b_Law_builds 156 = .ok (.aload_n 0, 1) := by decide +kernel
theorem d_Law_builds_157 : decode b_Law_builds 157 = .ok (.bipush 40, 2) := by decide +kernel
theorem d_Law_builds_159 : decode b_Law_builds 159 = .ok (.invokevirtual 128, 3) := by decide +kernel
theorem d_Law_builds_162 : decode b_Law_builds 162 = .ok (.iadd, 1) := by decide +kernel
theorem d_Law_builds_163 : decode b_Law_builds 163 = .ok (.invokestatic 137, 3) := by decide +kernel
theorem d_Law_builds_166 : decode b_Law_builds 166 = .ok (.bipush 10, 2) := by decide +kernel
theorem d_Law_builds_168 : decode b_Law_builds 168 = .ok (.if_icmp .ne 54, 3) := by decide +kernel
theorem d_Law_builds_171 : decode b_Law_builds 171 = .ok (.aload_n 0, 1) := by decide +kernel
theorem d_Law_builds_172 : decode b_Law_builds 172 = .ok (.getfield 10, 3) := by decide +kernel
theorem d_Law_builds_175 : decode b_Law_builds 175 = .ok (.iconst 4, 1) := by decide +kernel
theorem d_Law_builds_176 : decode b_Law_builds 176 = .ok (.aload_n 0, 1) := by decide +kernel
theorem d_Law_builds_177 : decode b_Law_builds 177 = .ok (.iconst 4, 1) := by decide +kernel
theorem d_Law_builds_178 : decode b_Law_builds 178 = .ok (.invokevirtual 128, 3) := by decide +kernel
theorem d_Law_builds_181 : decode b_Law_builds 181 = .ok (.ifCond .ne 11, 3) := by decide +kernel
theorem d_Law_builds_184 : decode b_Law_builds 184 = .ok (.aload_n 0, 1) := by decide +kernel
theorem d_Law_builds_185 : decode b_Law_builds 185 = .ok (.iconst 4, 1) := by decide +kernel
theorem d_Law_builds_186 : decode b_Law_builds 186 = .ok (.invokevirtual 128, 3) := by decide +kernel
theorem d_Law_builds_189 : decode b_Law_builds 189 = .ok (.goto 5, 3) := by decide +kernel
theorem d_Law_builds_192 : decode b_Law_builds 192 = .ok (.bipush 11, 2) := by decide +kernel
theorem d_Law_builds_194 : decode b_Law_builds 194 = .ok (.invokestatic 137, 3) := by decide +kernel
theorem d_Law_builds_197 : decode b_Law_builds 197 = .ok (.bipush 11, 2) := by decide +kernel
theorem d_Law_builds_199 : decode b_Law_builds 199 = .ok (.if_icmp .ne 23, 3) := by decide +kernel
theorem d_Law_builds_202 : decode b_Law_builds 202 = .ok (.aload_n 0, 1) := by decide +kernel
theorem d_Law_builds_203 : decode b_Law_builds 203 = .ok (.getfield 10, 3) := by decide +kernel
theorem d_Law_builds_206 : decode b_Law_builds 206 = .ok (.aload_n 0, 1) := by decide +kernel
theorem d_Law_builds_207 : decode b_Law_builds 207 = .ok (.ldc 140, 2) := by decide +kernel
theorem d_Law_builds_209 : decode b_Law_builds 209 = .ok (.invokevirtual 128, 3) := by decide +kernel
theorem d_Law_builds_212 : decode b_Law_builds 212 = .ok (.invokestatic 141, 3) := by decide +kernel
theorem d_Law_builds_215 : decode b_Law_builds 215 = .ok (.ifCond .ne 7, 3) := by decide +kernel
theorem d_Law_builds_218 : decode b_Law_builds 218 = .ok (.iconst 1, 1) := by decide +kernel
theorem d_Law_builds_219 : decode b_Law_builds 219 = .ok (.goto 4, 3) := by decide +kernel
theorem d_Law_builds_222 : decode b_Law_builds 222 = .ok (.iconst 0, 1) := by decide +kernel
theorem d_Law_builds_223 : decode b_Law_builds 223 = .ok (.ireturn, 1) := by decide +kernel
def L_Law_builds (G : zLA) : Nat → Nat → Int32 → Int32 → Int32 → Int32 → zSt → Option (Int32 × zSt)
  | 0, _, _, _, _, _, _ => none
  | n + 1, 0, x1, x2, y1, y2, σ => if x1 ≤ x2 then (bd2 (F_Law_draw G (9 : Int32) σ) fun r5 σ6 => bd2 (F_Law_set (0 : Int32) ((1 : Int32) + r5) σ6) fun r8 σ9 => if r8 = (5 : Int32) then (bd2 (F_Law_draw G (3 : Int32) σ9) fun r11 σ12 => bd2 (F_Law_set (1 : Int32) r11 σ12) fun r14 σ15 => if r14 = (1 : Int32) then (bd2 (F_Law_draw G (40 : Int32) σ15) fun r17 σ18 => bd2 (F_Law_set (3 : Int32) ((5 : Int32) + r17) σ18) fun r20 σ21 => if r20 = (10 : Int32) then (bd2 (F_Law_draw G (4 : Int32) σ21) fun r23 σ24 => if r23 = 0 then (bd2 (F_Law_draw G (4 : Int32) σ24) fun r26 σ27 => L_Law_builds G n 1 0 0 (4 : Int32) r26 σ27) else L_Law_builds G n 1 0 0 (4 : Int32) (11 : Int32) σ24) else some ((0 : Int32), σ21)) else some ((0 : Int32), σ15)) else some ((0 : Int32), σ9)) else (bd2 (F_Law_draw G (40 : Int32) σ) fun r33 σ34 => bd2 (F_Law_draw G (40 : Int32) σ34) fun r36 σ37 => bd2 (F_Law_draw G (40 : Int32) σ37) fun r39 σ40 => bd2 (F_Law_draw G (900 : Int32) σ40) fun r42 σ43 => bd2 (F_Law_draw G (9 : Int32) σ43) fun r45 σ46 => bd2 (F_Law_addHouse ((30 : Int32) + r33) ((30 : Int32) + r36) ((10 : Int32) + r39) ((100 : Int32) + r42) ((1 : Int32) + r45) σ46) fun r48 σ49 => if r48 = x2 then (bd2 (F_Law_draw G (3 : Int32) σ49) fun r51 σ52 => if r51 = 0 then (bd2 (F_Law_draw G (48 : Int32) σ52) fun r54 σ55 => bd2 (F_Law_draw G (48 : Int32) σ55) fun r57 σ58 => bd2 (F_Law_setQuiet x2 r54 r57 σ58) fun r60 σ61 => if r60 = 0 then L_Law_builds G n 0 x1 (x2 + (1 : Int32)) 0 0 σ61 else some ((0 : Int32), σ61)) else L_Law_builds G n 0 x1 (x2 + (1 : Int32)) 0 0 σ52) else some ((0 : Int32), σ49))
  | n + 1, 1, x1, x2, y1, y2, σ => bd2 (F_Law_set y1 y2 σ) fun r67 σ68 => if r67 = (11 : Int32) then (bd2 (F_Law_draw G (1000003 : Int32) σ68) fun r70 σ71 => bd2 (F_Law_seed r70 σ71) fun r73 σ74 => if r73 = 0 then some ((1 : Int32), σ74) else some ((0 : Int32), σ74)) else some ((0 : Int32), σ68)
  | _ + 1, _, _, _, _, _, _ => none
theorem e_Law_builds_0 (G : zLA) (n : Nat) (x1 : Int32) (x2 : Int32) (y1 : Int32) (y2 : Int32) (σ : zSt) : L_Law_builds G (n + 1) 0 x1 x2 y1 y2 σ = (if x1 ≤ x2 then (bd2 (F_Law_draw G (9 : Int32) σ) fun r5 σ6 => bd2 (F_Law_set (0 : Int32) ((1 : Int32) + r5) σ6) fun r8 σ9 => if r8 = (5 : Int32) then (bd2 (F_Law_draw G (3 : Int32) σ9) fun r11 σ12 => bd2 (F_Law_set (1 : Int32) r11 σ12) fun r14 σ15 => if r14 = (1 : Int32) then (bd2 (F_Law_draw G (40 : Int32) σ15) fun r17 σ18 => bd2 (F_Law_set (3 : Int32) ((5 : Int32) + r17) σ18) fun r20 σ21 => if r20 = (10 : Int32) then (bd2 (F_Law_draw G (4 : Int32) σ21) fun r23 σ24 => if r23 = 0 then (bd2 (F_Law_draw G (4 : Int32) σ24) fun r26 σ27 => L_Law_builds G n 1 0 0 (4 : Int32) r26 σ27) else L_Law_builds G n 1 0 0 (4 : Int32) (11 : Int32) σ24) else some ((0 : Int32), σ21)) else some ((0 : Int32), σ15)) else some ((0 : Int32), σ9)) else (bd2 (F_Law_draw G (40 : Int32) σ) fun r33 σ34 => bd2 (F_Law_draw G (40 : Int32) σ34) fun r36 σ37 => bd2 (F_Law_draw G (40 : Int32) σ37) fun r39 σ40 => bd2 (F_Law_draw G (900 : Int32) σ40) fun r42 σ43 => bd2 (F_Law_draw G (9 : Int32) σ43) fun r45 σ46 => bd2 (F_Law_addHouse ((30 : Int32) + r33) ((30 : Int32) + r36) ((10 : Int32) + r39) ((100 : Int32) + r42) ((1 : Int32) + r45) σ46) fun r48 σ49 => if r48 = x2 then (bd2 (F_Law_draw G (3 : Int32) σ49) fun r51 σ52 => if r51 = 0 then (bd2 (F_Law_draw G (48 : Int32) σ52) fun r54 σ55 => bd2 (F_Law_draw G (48 : Int32) σ55) fun r57 σ58 => bd2 (F_Law_setQuiet x2 r54 r57 σ58) fun r60 σ61 => if r60 = 0 then L_Law_builds G n 0 x1 (x2 + (1 : Int32)) 0 0 σ61 else some ((0 : Int32), σ61)) else L_Law_builds G n 0 x1 (x2 + (1 : Int32)) 0 0 σ52) else some ((0 : Int32), σ49))) := rfl
theorem e_Law_builds_1 (G : zLA) (n : Nat) (x1 : Int32) (x2 : Int32) (y1 : Int32) (y2 : Int32) (σ : zSt) : L_Law_builds G (n + 1) 1 x1 x2 y1 y2 σ = (bd2 (F_Law_set y1 y2 σ) fun r67 σ68 => if r67 = (11 : Int32) then (bd2 (F_Law_draw G (1000003 : Int32) σ68) fun r70 σ71 => bd2 (F_Law_seed r70 σ71) fun r73 σ74 => if r73 = 0 then some ((1 : Int32), σ74) else some ((0 : Int32), σ74)) else some ((0 : Int32), σ68)) := rfl
set_option maxHeartbeats 4000000 in
set_option maxRecDepth 100000 in
theorem w_Law_builds {l : Launch} {G : zLA} {p : Program} {e : Env} {s : State} {m : MethodId} {args : Array Value} {below : List Frame} {meth : Method} {c : Code} (C : zCx G p s m args meth c "VillageWavesLaw" b_Law_builds 3 (some .boolean)) (hx : zxl G) (hm : zml G) {r : Int32} {σ' : zSt} : ∀ n : Nat, (∀ (x1 : Int32) (x2 : Int32) (y1 : Int32) (y2 : Int32) (σ : zSt), L_Law_builds G n 0 x1 x2 y1 y2 σ = some (r, σ') → zWV G p l e rm_Law_builds s m args below meth c 3 0 0 (zQ G below args s rm_Law_builds (some (.int r)) σ') 11 [(0, .ref (zad G 4 80)), (1, .int x1), (2, .int x2)] [] σ) ∧ (∀ (x1 : Int32) (x2 : Int32) (y1 : Int32) (y2 : Int32) (σ : zSt), L_Law_builds G n 1 x1 x2 y1 y2 σ = some (r, σ') → zWV G p l e rm_Law_builds s m args below meth c 3 0 0 (zQ G below args s rm_Law_builds (some (.int r)) σ') 194 [(0, .ref (zad G 4 80))] [.int y2, .int y1, .ref (zad G 4 70)] σ) := by
  intro n
  induction n with
  | zero => exact ⟨fun _ _ _ _ _ hf => (by cases hf), fun _ _ _ _ _ hf => (by cases hf)⟩
  | succ n ih =>
    refine ⟨?_, ?_⟩
    · intro x1 x2 y1 y2 σ hf
      rw [e_Law_builds_0] at hf
      refine z_iload_n C d_Law_builds_11 2 rfl rfl ?_
      refine z_iload_n C d_Law_builds_12 1 rfl rfl ?_
      refine z_icmp_ge (tgt := 113) C d_Law_builds_13 rfl (fun h65 => ?_) (fun h65 => ?_)
      · have hf := iff_t hf h65
        refine z_aload_n C d_Law_builds_113 0 rfl rfl ?_
        refine gf_Law_10 C hm rfl rfl d_Law_builds_114 ?_
        refine z_iconst C d_Law_builds_117 zki_0 ?_
        refine z_iconst C d_Law_builds_118 zki_1 ?_
        refine z_aload_n C d_Law_builds_119 0 rfl rfl ?_
        refine z_bipush C d_Law_builds_120 zkb_9 ?_
        obtain ⟨r5, σ6, h4, hf⟩ := bd2_s hf
        refine z_cVi C kl_Law_128 rfl (c_Law_draw hx hm h4) hm rfl rfl rfl (Nat.le_of_ble_eq_true rfl) ⟨(Nat.le_of_ble_eq_true rfl), (Nat.le_of_ble_eq_true rfl)⟩ ⟨(Nat.le_of_ble_eq_true rfl), (Nat.le_of_ble_eq_true rfl)⟩ d_Law_builds_122 ?_
        refine z_iadd C d_Law_builds_125 ?_
        obtain ⟨r8, σ9, h7, hf⟩ := bd2_s hf
        refine z_cHi C kh_Law_set (c_Law_set hx h7) rfl rfl (Nat.le_of_ble_eq_true rfl) ⟨(Nat.le_of_ble_eq_true rfl), (Nat.le_of_ble_eq_true rfl)⟩ ⟨(Nat.le_of_ble_eq_true rfl), (Nat.le_of_ble_eq_true rfl)⟩ d_Law_builds_126 ?_
        refine z_iconst C d_Law_builds_129 zki_5 ?_
        refine z_icmp_ne (tgt := 222) C d_Law_builds_130 rfl (fun h31 => ?_) (fun h31 => ?_)
        · have hf := iff_f hf h31
          refine z_iconst C d_Law_builds_222 zki_0 ?_
          cases hf
          exact z_zret C rfl rfl (Nat.le_of_ble_eq_true rfl) (Nat.le_of_ble_eq_true rfl) d_Law_builds_223
        · have hf := iff_t hf h31
          refine z_aload_n C d_Law_builds_133 0 rfl rfl ?_
          refine gf_Law_10 C hm rfl rfl d_Law_builds_134 ?_
          refine z_iconst C d_Law_builds_137 zki_1 ?_
          refine z_aload_n C d_Law_builds_138 0 rfl rfl ?_
          refine z_iconst C d_Law_builds_139 zki_3 ?_
          obtain ⟨r11, σ12, h10, hf⟩ := bd2_s hf
          refine z_cVi C kl_Law_128 rfl (c_Law_draw hx hm h10) hm rfl rfl rfl (Nat.le_of_ble_eq_true rfl) ⟨(Nat.le_of_ble_eq_true rfl), (Nat.le_of_ble_eq_true rfl)⟩ ⟨(Nat.le_of_ble_eq_true rfl), (Nat.le_of_ble_eq_true rfl)⟩ d_Law_builds_140 ?_
          obtain ⟨r14, σ15, h13, hf⟩ := bd2_s hf
          refine z_cHi C kh_Law_set (c_Law_set hx h13) rfl rfl (Nat.le_of_ble_eq_true rfl) ⟨(Nat.le_of_ble_eq_true rfl), (Nat.le_of_ble_eq_true rfl)⟩ ⟨(Nat.le_of_ble_eq_true rfl), (Nat.le_of_ble_eq_true rfl)⟩ d_Law_builds_143 ?_
          refine z_iconst C d_Law_builds_146 zki_1 ?_
          refine z_icmp_ne (tgt := 222) C d_Law_builds_147 rfl (fun h30 => ?_) (fun h30 => ?_)
          · have hf := iff_f hf h30
            refine z_iconst C d_Law_builds_222 zki_0 ?_
            cases hf
            exact z_zret C rfl rfl (Nat.le_of_ble_eq_true rfl) (Nat.le_of_ble_eq_true rfl) d_Law_builds_223
          · have hf := iff_t hf h30
            refine z_aload_n C d_Law_builds_150 0 rfl rfl ?_
            refine gf_Law_10 C hm rfl rfl d_Law_builds_151 ?_
            refine z_iconst C d_Law_builds_154 zki_3 ?_
            refine z_iconst C d_Law_builds_155 zki_5 ?_
            refine z_aload_n C d_Law_builds_156 0 rfl rfl ?_
            refine z_bipush C d_Law_builds_157 zkb_40 ?_
            obtain ⟨r17, σ18, h16, hf⟩ := bd2_s hf
            refine z_cVi C kl_Law_128 rfl (c_Law_draw hx hm h16) hm rfl rfl rfl (Nat.le_of_ble_eq_true rfl) ⟨(Nat.le_of_ble_eq_true rfl), (Nat.le_of_ble_eq_true rfl)⟩ ⟨(Nat.le_of_ble_eq_true rfl), (Nat.le_of_ble_eq_true rfl)⟩ d_Law_builds_159 ?_
            refine z_iadd C d_Law_builds_162 ?_
            obtain ⟨r20, σ21, h19, hf⟩ := bd2_s hf
            refine z_cHi C kh_Law_set (c_Law_set hx h19) rfl rfl (Nat.le_of_ble_eq_true rfl) ⟨(Nat.le_of_ble_eq_true rfl), (Nat.le_of_ble_eq_true rfl)⟩ ⟨(Nat.le_of_ble_eq_true rfl), (Nat.le_of_ble_eq_true rfl)⟩ d_Law_builds_163 ?_
            refine z_bipush C d_Law_builds_166 zkb_10 ?_
            refine z_icmp_ne (tgt := 222) C d_Law_builds_168 rfl (fun h29 => ?_) (fun h29 => ?_)
            · have hf := iff_f hf h29
              refine z_iconst C d_Law_builds_222 zki_0 ?_
              cases hf
              exact z_zret C rfl rfl (Nat.le_of_ble_eq_true rfl) (Nat.le_of_ble_eq_true rfl) d_Law_builds_223
            · have hf := iff_t hf h29
              refine z_aload_n C d_Law_builds_171 0 rfl rfl ?_
              refine gf_Law_10 C hm rfl rfl d_Law_builds_172 ?_
              refine z_iconst C d_Law_builds_175 zki_4 ?_
              refine z_aload_n C d_Law_builds_176 0 rfl rfl ?_
              refine z_iconst C d_Law_builds_177 zki_4 ?_
              obtain ⟨r23, σ24, h22, hf⟩ := bd2_s hf
              refine z_cVi C kl_Law_128 rfl (c_Law_draw hx hm h22) hm rfl rfl rfl (Nat.le_of_ble_eq_true rfl) ⟨(Nat.le_of_ble_eq_true rfl), (Nat.le_of_ble_eq_true rfl)⟩ ⟨(Nat.le_of_ble_eq_true rfl), (Nat.le_of_ble_eq_true rfl)⟩ d_Law_builds_178 ?_
              refine z_if_ne (tgt := 192) C d_Law_builds_181 rfl (fun h28 => ?_) (fun h28 => ?_)
              · have hf := iff_f hf h28
                refine z_bipush C d_Law_builds_192 zkb_11 ?_
                have hw := ih.2 _ _ _ _ _ hf
                exact z_sub [0] rfl hw
              · have hf := iff_t hf h28
                refine z_aload_n C d_Law_builds_184 0 rfl rfl ?_
                refine z_iconst C d_Law_builds_185 zki_4 ?_
                obtain ⟨r26, σ27, h25, hf⟩ := bd2_s hf
                refine z_cVi C kl_Law_128 rfl (c_Law_draw hx hm h25) hm rfl rfl rfl (Nat.le_of_ble_eq_true rfl) ⟨(Nat.le_of_ble_eq_true rfl), (Nat.le_of_ble_eq_true rfl)⟩ ⟨(Nat.le_of_ble_eq_true rfl), (Nat.le_of_ble_eq_true rfl)⟩ d_Law_builds_186 ?_
                refine z_goto (tgt := 194) C d_Law_builds_189 rfl ?_
                have hw := ih.2 _ _ _ _ _ hf
                exact z_sub [0] rfl hw
      · have hf := iff_f hf h65
        refine z_aload_n C d_Law_builds_16 0 rfl rfl ?_
        refine gf_Law_10 C hm rfl rfl d_Law_builds_17 ?_
        refine z_bipush C d_Law_builds_20 zkb_30 ?_
        refine z_aload_n C d_Law_builds_22 0 rfl rfl ?_
        refine z_bipush C d_Law_builds_23 zkb_40 ?_
        obtain ⟨r33, σ34, h32, hf⟩ := bd2_s hf
        refine z_cVi C kl_Law_128 rfl (c_Law_draw hx hm h32) hm rfl rfl rfl (Nat.le_of_ble_eq_true rfl) ⟨(Nat.le_of_ble_eq_true rfl), (Nat.le_of_ble_eq_true rfl)⟩ ⟨(Nat.le_of_ble_eq_true rfl), (Nat.le_of_ble_eq_true rfl)⟩ d_Law_builds_25 ?_
        refine z_iadd C d_Law_builds_28 ?_
        refine z_bipush C d_Law_builds_29 zkb_30 ?_
        refine z_aload_n C d_Law_builds_31 0 rfl rfl ?_
        refine z_bipush C d_Law_builds_32 zkb_40 ?_
        obtain ⟨r36, σ37, h35, hf⟩ := bd2_s hf
        refine z_cVi C kl_Law_128 rfl (c_Law_draw hx hm h35) hm rfl rfl rfl (Nat.le_of_ble_eq_true rfl) ⟨(Nat.le_of_ble_eq_true rfl), (Nat.le_of_ble_eq_true rfl)⟩ ⟨(Nat.le_of_ble_eq_true rfl), (Nat.le_of_ble_eq_true rfl)⟩ d_Law_builds_34 ?_
        refine z_iadd C d_Law_builds_37 ?_
        refine z_bipush C d_Law_builds_38 zkb_10 ?_
        refine z_aload_n C d_Law_builds_40 0 rfl rfl ?_
        refine z_bipush C d_Law_builds_41 zkb_40 ?_
        obtain ⟨r39, σ40, h38, hf⟩ := bd2_s hf
        refine z_cVi C kl_Law_128 rfl (c_Law_draw hx hm h38) hm rfl rfl rfl (Nat.le_of_ble_eq_true rfl) ⟨(Nat.le_of_ble_eq_true rfl), (Nat.le_of_ble_eq_true rfl)⟩ ⟨(Nat.le_of_ble_eq_true rfl), (Nat.le_of_ble_eq_true rfl)⟩ d_Law_builds_43 ?_
        refine z_iadd C d_Law_builds_46 ?_
        refine z_bipush C d_Law_builds_47 zkb_100 ?_
        refine z_aload_n C d_Law_builds_49 0 rfl rfl ?_
        refine z_sipush C d_Law_builds_50 zks_900 ?_
        obtain ⟨r42, σ43, h41, hf⟩ := bd2_s hf
        refine z_cVi C kl_Law_128 rfl (c_Law_draw hx hm h41) hm rfl rfl rfl (Nat.le_of_ble_eq_true rfl) ⟨(Nat.le_of_ble_eq_true rfl), (Nat.le_of_ble_eq_true rfl)⟩ ⟨(Nat.le_of_ble_eq_true rfl), (Nat.le_of_ble_eq_true rfl)⟩ d_Law_builds_53 ?_
        refine z_iadd C d_Law_builds_56 ?_
        refine z_iconst C d_Law_builds_57 zki_1 ?_
        refine z_aload_n C d_Law_builds_58 0 rfl rfl ?_
        refine z_bipush C d_Law_builds_59 zkb_9 ?_
        obtain ⟨r45, σ46, h44, hf⟩ := bd2_s hf
        refine z_cVi C kl_Law_128 rfl (c_Law_draw hx hm h44) hm rfl rfl rfl (Nat.le_of_ble_eq_true rfl) ⟨(Nat.le_of_ble_eq_true rfl), (Nat.le_of_ble_eq_true rfl)⟩ ⟨(Nat.le_of_ble_eq_true rfl), (Nat.le_of_ble_eq_true rfl)⟩ d_Law_builds_61 ?_
        refine z_iadd C d_Law_builds_64 ?_
        obtain ⟨r48, σ49, h47, hf⟩ := bd2_s hf
        refine z_cHi C kh_Law_addHouse (c_Law_addHouse hx h47) rfl rfl (Nat.le_of_ble_eq_true rfl) ⟨(Nat.le_of_ble_eq_true rfl), (Nat.le_of_ble_eq_true rfl)⟩ ⟨(Nat.le_of_ble_eq_true rfl), (Nat.le_of_ble_eq_true rfl)⟩ d_Law_builds_65 ?_
        refine z_iload_n C d_Law_builds_68 2 rfl rfl ?_
        refine z_icmp_eq (tgt := 74) C d_Law_builds_69 rfl (fun h64 => ?_) (fun h64 => ?_)
        · have hf := iff_t hf h64
          refine z_aload_n C d_Law_builds_74 0 rfl rfl ?_
          refine z_iconst C d_Law_builds_75 zki_3 ?_
          obtain ⟨r51, σ52, h50, hf⟩ := bd2_s hf
          refine z_cVi C kl_Law_128 rfl (c_Law_draw hx hm h50) hm rfl rfl rfl (Nat.le_of_ble_eq_true rfl) ⟨(Nat.le_of_ble_eq_true rfl), (Nat.le_of_ble_eq_true rfl)⟩ ⟨(Nat.le_of_ble_eq_true rfl), (Nat.le_of_ble_eq_true rfl)⟩ d_Law_builds_76 ?_
          refine z_if_ne (tgt := 107) C d_Law_builds_79 rfl (fun h63 => ?_) (fun h63 => ?_)
          · have hf := iff_f hf h63
            refine z_iinc C d_Law_builds_107 2 rfl zki_1 (by decide) ?_
            refine z_lv (lv1 := [(2, .int (x2 + (1 : Int32))), (0, .ref (zad G 4 80)), (1, .int x1)]) rfl ?_
            refine z_goto (tgt := 11) C d_Law_builds_110 rfl ?_
            have hw := ih.1 _ _ _ _ _ hf
            exact z_sub [1, 2, 0] rfl hw
          · have hf := iff_t hf h63
            refine z_aload_n C d_Law_builds_82 0 rfl rfl ?_
            refine gf_Law_10 C hm rfl rfl d_Law_builds_83 ?_
            refine z_iload_n C d_Law_builds_86 2 rfl rfl ?_
            refine z_aload_n C d_Law_builds_87 0 rfl rfl ?_
            refine z_bipush C d_Law_builds_88 zkb_48 ?_
            obtain ⟨r54, σ55, h53, hf⟩ := bd2_s hf
            refine z_cVi C kl_Law_128 rfl (c_Law_draw hx hm h53) hm rfl rfl rfl (Nat.le_of_ble_eq_true rfl) ⟨(Nat.le_of_ble_eq_true rfl), (Nat.le_of_ble_eq_true rfl)⟩ ⟨(Nat.le_of_ble_eq_true rfl), (Nat.le_of_ble_eq_true rfl)⟩ d_Law_builds_90 ?_
            refine z_aload_n C d_Law_builds_93 0 rfl rfl ?_
            refine z_bipush C d_Law_builds_94 zkb_48 ?_
            obtain ⟨r57, σ58, h56, hf⟩ := bd2_s hf
            refine z_cVi C kl_Law_128 rfl (c_Law_draw hx hm h56) hm rfl rfl rfl (Nat.le_of_ble_eq_true rfl) ⟨(Nat.le_of_ble_eq_true rfl), (Nat.le_of_ble_eq_true rfl)⟩ ⟨(Nat.le_of_ble_eq_true rfl), (Nat.le_of_ble_eq_true rfl)⟩ d_Law_builds_96 ?_
            obtain ⟨r60, σ61, h59, hf⟩ := bd2_s hf
            refine z_cHi C kh_Law_setQuiet (c_Law_setQuiet hx h59) rfl rfl (Nat.le_of_ble_eq_true rfl) ⟨(Nat.le_of_ble_eq_true rfl), (Nat.le_of_ble_eq_true rfl)⟩ ⟨(Nat.le_of_ble_eq_true rfl), (Nat.le_of_ble_eq_true rfl)⟩ d_Law_builds_99 ?_
            refine z_if_eq (tgt := 107) C d_Law_builds_102 rfl (fun h62 => ?_) (fun h62 => ?_)
            · have hf := iff_t hf h62
              refine z_iinc C d_Law_builds_107 2 rfl zki_1 (by decide) ?_
              refine z_lv (lv1 := [(2, .int (x2 + (1 : Int32))), (0, .ref (zad G 4 80)), (1, .int x1)]) rfl ?_
              refine z_goto (tgt := 11) C d_Law_builds_110 rfl ?_
              have hw := ih.1 _ _ _ _ _ hf
              exact z_sub [1, 2, 0] rfl hw
            · have hf := iff_f hf h62
              refine z_iconst C d_Law_builds_105 zki_0 ?_
              cases hf
              exact z_zret C rfl rfl (Nat.le_of_ble_eq_true rfl) (Nat.le_of_ble_eq_true rfl) d_Law_builds_106
        · have hf := iff_f hf h64
          refine z_iconst C d_Law_builds_72 zki_0 ?_
          cases hf
          exact z_zret C rfl rfl (Nat.le_of_ble_eq_true rfl) (Nat.le_of_ble_eq_true rfl) d_Law_builds_73
    · intro x1 x2 y1 y2 σ hf
      rw [e_Law_builds_1] at hf
      obtain ⟨r67, σ68, h66, hf⟩ := bd2_s hf
      refine z_cHi C kh_Law_set (c_Law_set hx h66) rfl rfl (Nat.le_of_ble_eq_true rfl) ⟨(Nat.le_of_ble_eq_true rfl), (Nat.le_of_ble_eq_true rfl)⟩ ⟨(Nat.le_of_ble_eq_true rfl), (Nat.le_of_ble_eq_true rfl)⟩ d_Law_builds_194 ?_
      refine z_bipush C d_Law_builds_197 zkb_11 ?_
      refine z_icmp_ne (tgt := 222) C d_Law_builds_199 rfl (fun h76 => ?_) (fun h76 => ?_)
      · have hf := iff_f hf h76
        refine z_iconst C d_Law_builds_222 zki_0 ?_
        cases hf
        exact z_zret C rfl rfl (Nat.le_of_ble_eq_true rfl) (Nat.le_of_ble_eq_true rfl) d_Law_builds_223
      · have hf := iff_t hf h76
        refine z_aload_n C d_Law_builds_202 0 rfl rfl ?_
        refine gf_Law_10 C hm rfl rfl d_Law_builds_203 ?_
        refine z_aload_n C d_Law_builds_206 0 rfl rfl ?_
        refine z_ldc C d_Law_builds_207 zq573 ?_
        obtain ⟨r70, σ71, h69, hf⟩ := bd2_s hf
        refine z_cVi C kl_Law_128 rfl (c_Law_draw hx hm h69) hm rfl rfl rfl (Nat.le_of_ble_eq_true rfl) ⟨(Nat.le_of_ble_eq_true rfl), (Nat.le_of_ble_eq_true rfl)⟩ ⟨(Nat.le_of_ble_eq_true rfl), (Nat.le_of_ble_eq_true rfl)⟩ d_Law_builds_209 ?_
        obtain ⟨r73, σ74, h72, hf⟩ := bd2_s hf
        refine z_cHi C kh_Law_seed (c_Law_seed hx h72) rfl rfl (Nat.le_of_ble_eq_true rfl) ⟨(Nat.le_of_ble_eq_true rfl), (Nat.le_of_ble_eq_true rfl)⟩ ⟨(Nat.le_of_ble_eq_true rfl), (Nat.le_of_ble_eq_true rfl)⟩ d_Law_builds_212 ?_
        refine z_if_ne (tgt := 222) C d_Law_builds_215 rfl (fun h75 => ?_) (fun h75 => ?_)
        · have hf := iff_f hf h75
          refine z_iconst C d_Law_builds_222 zki_0 ?_
          cases hf
          exact z_zret C rfl rfl (Nat.le_of_ble_eq_true rfl) (Nat.le_of_ble_eq_true rfl) d_Law_builds_223
        · have hf := iff_t hf h75
          refine z_iconst C d_Law_builds_218 zki_1 ?_
          refine z_goto (tgt := 223) C d_Law_builds_219 rfl ?_
          cases hf
          exact z_zret C rfl rfl (Nat.le_of_ble_eq_true rfl) (Nat.le_of_ble_eq_true rfl) d_Law_builds_223
def F_Law_builds (G : zLA) (σ : zSt) : Option (Int32 × zSt) :=
  bd2 (F_Law_draw G (11 : Int32) σ) fun r2 σ3 => L_Law_builds G zK 0 ((2 : Int32) + r2) (0 : Int32) 0 0 σ3
set_option maxHeartbeats 4000000 in
set_option maxRecDepth 100000 in
theorem c_Law_builds {l : Launch} {G : zLA} (hx : zxl G) (hm : zml G) {σ : zSt} {r : Int32} {σ' : zSt} (hf : F_Law_builds G σ = some (r, σ')) : zM l G y_Law_builds (zws y_Law_builds b_Law_builds 3 (some .boolean)) rm_Law_builds [.ref (zad G 4 80)] σ (some (.int r)) σ' := by
  refine z_ofM (own := "VillageWavesLaw") (lv := [(0, .ref (zad G 4 80))]) (by decide +kernel) rfl rfl (Nat.le_of_ble_eq_true rfl) (fun p e s m args below meth c C => ?_)
  rw [F_Law_builds] at hf
  refine z_iconst C d_Law_builds_0 zki_2 ?_
  refine z_aload_n C d_Law_builds_1 0 rfl rfl ?_
  refine z_bipush C d_Law_builds_2 zkb_11 ?_
  obtain ⟨r2, σ3, h1, hf⟩ := bd2_s hf
  refine z_cVi C kl_Law_128 rfl (c_Law_draw hx hm h1) hm rfl rfl rfl (Nat.le_of_ble_eq_true rfl) ⟨(Nat.le_of_ble_eq_true rfl), (Nat.le_of_ble_eq_true rfl)⟩ ⟨(Nat.le_of_ble_eq_true rfl), (Nat.le_of_ble_eq_true rfl)⟩ d_Law_builds_4 ?_
  refine z_iadd C d_Law_builds_7 ?_
  refine z_istore_n C d_Law_builds_8 rfl (by decide) ?_
  refine z_lv (lv1 := [(1, .int ((2 : Int32) + r2)), (0, .ref (zad G 4 80))]) rfl ?_
  refine z_iconst C d_Law_builds_9 zki_0 ?_
  refine z_istore_n C d_Law_builds_10 rfl (by decide) ?_
  refine z_lv (lv1 := [(2, .int (0 : Int32)), (1, .int ((2 : Int32) + r2)), (0, .ref (zad G 4 80))]) rfl ?_
  have hw := (w_Law_builds (l := l) (e := e) (below := below) C hx hm zK).1 _ _ _ _ _ hf
  exact z_sub [2, 1, 0] rfl hw
