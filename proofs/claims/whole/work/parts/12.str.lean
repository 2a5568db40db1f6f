section ZS
variable {G : zLA} {p : Program} {l : Launch} {e : Env} {R : Room} {s : State} {m : MethodId} {args : Array Value} {below : List Frame} {meth : Method} {c : Code} {cells slots : Nat} {Q : State → Prop}
variable {own : String} {cc : ByteArray} {nL : Nat} {ret : Option FieldType} {pc : Nat} {lv : List (Nat × Value)} {st : List Value} {σ : zSt}
theorem zs_value (C : zCx G p s m args meth c own cc nL ret) {index : Nat} (i : Nat) (hi : i < 12) (hlink : Cond.fieldLink own index "java/lang/String" "value" "[B" ∈ zGW) (d : decode cc pc = .ok (.getfield index, 3)) (kk : zWV G p l e R s m args below meth c nL cells slots Q (pc + 3) lv (.ref (zsa G (40 + i)) :: st) σ) : zWV G p l e R s m args below meth c nL cells slots Q pc lv (.ref (zsa G (10 + i)) :: st) σ :=
  fun ls H locs hl hP hD hS => vk_getf C.x C.b (C.F.2.1 i hi).2.2.1 hS C.o (C.t _ hlink) (fun _ h => h) d (kk ls H locs hl hP hD hS)
theorem zs_coder (C : zCx G p s m args meth c own cc nL ret) {index : Nat} (i : Nat) (hi : i < 12) (hlink : Cond.fieldLink own index "java/lang/String" "coder" "B" ∈ zGW) (d : decode cc pc = .ok (.getfield index, 3)) (kk : zWV G p l e R s m args below meth c nL cells slots Q (pc + 3) lv (.int 0 :: st) σ) : zWV G p l e R s m args below meth c nL cells slots Q pc lv (.ref (zsa G (10 + i)) :: st) σ :=
  fun ls H locs hl hP hD hS => vk_getf C.x C.b (C.F.2.1 i hi).2.1 hS C.o (C.t _ hlink) (fun _ h => h) d (kk ls H locs hl hP hD hS)
theorem zs_len (C : zCx G p s m args meth c own cc nL ret) (i : Nat) (hi : i < 12) (d : decode cc pc = .ok (.arraylength, 1)) (kk : zWV G p l e R s m args below meth c nL cells slots Q (pc + 1) lv (.int (Int32.ofNat (zsb i).length) :: st) σ) : zWV G p l e R s m args below meth c nL cells slots Q pc lv (.ref (zsa G (40 + i)) :: st) σ :=
  fun ls H locs hl hP hD hS => va_tlen C.x C.b (C.F.2.1 i hi).2.2.2 hS rfl d (kk ls H locs hl hP hD hS)
theorem zs_bld (C : zCx G p s m args meth c own cc nL ret) (i : Nat) (hi : i < 12) {k : Int32} (hin : vp_in k (zsb i).length) (d : decode cc pc = .ok (.baload, 1)) (kk : zWV G p l e R s m args below meth c nL cells slots Q (pc + 1) lv (.int ((zsb i).getD k.toNatClampNeg 0) :: st) σ) : zWV G p l e R s m args below meth c nL cells slots Q pc lv (.int k :: .ref (zsa G (40 + i)) :: st) σ :=
  fun ls H locs hl hP hD hS => va_tb C.x C.b (C.F.2.1 i hi).2.2.2 hS hin rfl d (kk ls H locs hl hP hD hS)
theorem zs_compact (C : zCx G p s m args meth c own cc nL ret) {index : Nat} (hlink : Cond.fieldLink own index "java/lang/String" "COMPACT_STRINGS" "Z" ∈ zGW) (d : decode cc pc = .ok (.getstatic index, 3)) (kk : zWV G p l e R s m args below meth c nL cells slots Q (pc + 3) lv (.int 1 :: st) σ) : zWV G p l e R s m args below meth c nL cells slots Q pc lv st σ :=
  fun ls H locs hl hP hD hS => va_gets C.x C.b C.F.2.2.2.2.2.1 hS C.o (C.t _ hlink) (fun _ h => h) d (kk ls H locs hl hP hD hS)
theorem zs_fmt (C : zCx G p s m args meth c own cc nL ret) {index : Nat} (hlink : Cond.fieldLink own index "jdk/internal/util/Preconditions" "SIOOBE_FORMATTER" "Ljava/util/function/BiFunction;" ∈ zGW) (d : decode cc pc = .ok (.getstatic index, 3)) (kk : ∀ u : Value, u = .null ∨ (∃ t : Nat, u = .ref t) → zWV G p l e R s m args below meth c nL cells slots Q (pc + 3) lv (u :: st) σ) : zWV G p l e R s m args below meth c nL cells slots Q pc lv st σ := by
  intro ls H locs hl hP hD hS
  rcases C.F.2.2.2.2.2.2 with h | ⟨t, h⟩
  · exact va_gets C.x C.b h hS C.o (C.t _ hlink) (fun _ h => h) d (kk .null (Or.inl rfl) ls H locs hl hP hD hS)
  · exact va_gets C.x C.b h hS C.o (C.t _ hlink) (fun _ h => h) d (kk (.ref t) (Or.inr ⟨t, rfl⟩) ls H locs hl hP hD hS)
theorem z_callT (C : zCx G p s m args meth c own cc nL ret) {index n i : Nat} {y : MethodName} {b : ByteArray} {ml : Nat} {rt : Option FieldType} {rm : Room} {as rest : List Value} {σ' : zSt} {ov : Option Value} (hL : zLV own index "java/lang/String" y b ml rt n) (hi : i < 12) (M : zM l G y (zws y b ml rt) rm (.ref (zsa G (10 + i)) :: as) σ ov σ') (hn : as.length = n) (hst : st = as.reverse ++ .ref (zsa G (10 + i)) :: rest) (hrest : (rest.map fun v => v.category).sum ≤ 8) (hR : rm.frames + 1 ≤ R.frames ∧ 8 + (ml + 11) + rm.locals ≤ R.locals) (hcs : cells + rm.cells ≤ R.cells ∧ slots + rm.slots ≤ R.slots) (d : decode cc pc = .ok (.invokevirtual index, 3)) (kk : zWV G p l e R s m args below meth c nL (cells + rm.cells) (slots + rm.slots) Q (pc + 3) lv (ov.toList ++ rest) σ') : zWV G p l e R s m args below meth c nL cells slots Q pc lv st σ := by
  subst hst
  intro ls H locs hl hP hD hS
  obtain ⟨h1, h2, h3, h4, h5, h6, h7⟩ := hL
  obtain ⟨cell, q1, q2, q3, -⟩ := (C.F.2.1 i hi).1.kept hS.2.1
  exact z_back (va_runV (As := as) (rest := rest) ⟨C.x, C.b, C.n, C.o, C.t⟩ (M H.size) (cwV n C.t (by unfold wsV; exact zgoodA (fun w hw => by simp only [List.mem_cons, List.not_mem_nil, or_false] at hw; rcases hw with rfl | rfl | rfl | rfl <;> assumption) h5) rfl rfl rfl ⟨h6, h7⟩ hR) ⟨zPre.blind, ⟨cell, q1, q2, q3⟩, zPre.of _ C.K C.w C.F C.L hP hD hS⟩ rfl hn hl.1 rfl (lv_room hrest) d hcs) hS hl hD kk
theorem z_cTi (C : zCx G p s m args meth c own cc nL ret) {index n i : Nat} {y : MethodName} {b : ByteArray} {ml : Nat} {rt : Option FieldType} {rm : Room} {as rest : List Value} {σ' : zSt} {r : Int32} (hL : zLV own index "java/lang/String" y b ml rt n) (hi : i < 12) (M : zM l G y (zws y b ml rt) rm (.ref (zsa G (10 + i)) :: as) σ (some (.int r)) σ') (hn : as.length = n) (hst : st = as.reverse ++ .ref (zsa G (10 + i)) :: rest) (hrest : (rest.map fun v => v.category).sum ≤ 8) (hR : rm.frames + 1 ≤ R.frames ∧ 8 + (ml + 11) + rm.locals ≤ R.locals) (hcs : cells + rm.cells ≤ R.cells ∧ slots + rm.slots ≤ R.slots) (d : decode cc pc = .ok (.invokevirtual index, 3)) (kk : zWV G p l e R s m args below meth c nL (cells + rm.cells) (slots + rm.slots) Q (pc + 3) lv (.int r :: rest) σ') : zWV G p l e R s m args below meth c nL cells slots Q pc lv st σ := z_callT C hL hi M hn hst hrest hR hcs d kk
end ZS
theorem d_String_coder_0 : decode b_String_coder 0 = .ok (.getstatic 38, 3) := by decide +kernel
theorem d_String_coder_3 : decode b_String_coder 3 = .ok (.ifCond .eq 10, 3) := by decide +kernel
theorem d_String_coder_6 : decode b_String_coder 6 = .ok (.aload_n 0, 1) := by decide +kernel
theorem d_String_coder_7 : decode b_String_coder 7 = .ok (.getfield 15, 3) := by decide +kernel
theorem d_String_coder_10 : decode b_String_coder 10 = .ok (.goto 4, 3) := by decide +kernel
theorem d_String_coder_13 : decode b_String_coder 13 = .ok (.iconst 1, 1) := by decide +kernel
theorem d_String_coder_14 : decode b_String_coder 14 = .ok (.ireturn, 1) := by decide +kernel
theorem d_String_isLatin1_0 : decode b_String_isLatin1 0 = .ok (.getstatic 38, 3) := by decide +kernel
theorem d_String_isLatin1_3 : decode b_String_isLatin1 3 = .ok (.ifCond .eq 14, 3) := by decide +kernel
theorem d_String_isLatin1_6 : decode b_String_isLatin1 6 = .ok (.aload_n 0, 1) := by decide +kernel
theorem d_String_isLatin1_7 : decode b_String_isLatin1 7 = .ok (.getfield 15, 3) := by decide +kernel
theorem d_String_isLatin1_10 : decode b_String_isLatin1 10 = .ok (.ifCond .ne 7, 3) := by decide +kernel
theorem d_String_isLatin1_13 : decode b_String_isLatin1 13 = .ok (.iconst 1, 1) := by decide +kernel
theorem d_String_isLatin1_14 : decode b_String_isLatin1 14 = .ok (.goto 4, 3) := by decide +kernel
theorem d_String_isLatin1_17 : decode b_String_isLatin1 17 = .ok (.iconst 0, 1) := by decide +kernel
theorem d_String_isLatin1_18 : decode b_String_isLatin1 18 = .ok (.ireturn, 1) := by decide +kernel
theorem d_String_length_0 : decode b_String_length 0 = .ok (.aload_n 0, 1) := by decide +kernel
theorem d_String_length_1 : decode b_String_length 1 = .ok (.getfield 9, 3) := by decide +kernel
theorem d_String_length_4 : decode b_String_length 4 = .ok (.arraylength, 1) := by decide +kernel
theorem d_String_length_5 : decode b_String_length 5 = .ok (.aload_n 0, 1) := by decide +kernel
theorem d_String_length_6 : decode b_String_length 6 = .ok (.invokevirtual 335, 3) := by decide +kernel
theorem d_String_length_9 : decode b_String_length 9 = .ok (.ishr, 1) := by decide +kernel
theorem d_String_length_10 : decode b_String_length 10 = .ok (.ireturn, 1) := by decide +kernel
theorem d_String_checkIndex_0 : decode b_String_checkIndex 0 = .ok (.iload_n 0, 1) := by decide +kernel
theorem d_String_checkIndex_1 : decode b_String_checkIndex 1 = .ok (.iload_n 1, 1) := by decide +kernel
theorem d_String_checkIndex_2 : decode b_String_checkIndex 2 = .ok (.getstatic 1053, 3) := by decide +kernel
theorem d_String_checkIndex_5 : decode b_String_checkIndex 5 = .ok (.invokestatic 1059, 3) := by decide +kernel
theorem d_String_checkIndex_8 : decode b_String_checkIndex 8 = .ok (.pop, 1) := by decide +kernel
theorem d_String_checkIndex_9 : decode b_String_checkIndex 9 = .ok (.return_, 1) := by decide +kernel
theorem d_String_charAt_0 : decode b_String_charAt 0 = .ok (.aload_n 0, 1) := by decide +kernel
theorem d_String_charAt_1 : decode b_String_charAt 1 = .ok (.invokevirtual 492, 3) := by decide +kernel
theorem d_String_charAt_4 : decode b_String_charAt 4 = .ok (.ifCond .eq 12, 3) := by decide +kernel
theorem d_String_charAt_7 : decode b_String_charAt 7 = .ok (.aload_n 0, 1) := by decide +kernel
theorem d_String_charAt_8 : decode b_String_charAt 8 = .ok (.getfield 9, 3) := by decide +kernel
theorem d_String_charAt_11 : decode b_String_charAt 11 = .ok (.iload_n 1, 1) := by decide +kernel
theorem d_String_charAt_12 : decode b_String_charAt 12 = .ok (.invokestatic 495, 3) := by decide +kernel
theorem d_String_charAt_15 : decode b_String_charAt 15 = .ok (.ireturn, 1) := by decide +kernel
theorem d_String_charAt_16 : decode b_String_charAt 16 = .ok (.aload_n 0, 1) := by decide +kernel
theorem d_String_charAt_17 : decode b_String_charAt 17 = .ok (.getfield 9, 3) := by decide +kernel
theorem d_String_charAt_20 : decode b_String_charAt 20 = .ok (.iload_n 1, 1) := by decide +kernel
theorem d_String_charAt_21 : decode b_String_charAt 21 = .ok (.invokestatic 498, 3) := by decide +kernel
theorem d_String_charAt_24 : decode b_String_charAt 24 = .ok (.ireturn, 1) := by decide +kernel
theorem d_Latin1_charAt_0 : decode b_Latin1_charAt 0 = .ok (.iload_n 1, 1) := by decide +kernel
theorem d_Latin1_charAt_1 : decode b_Latin1_charAt 1 = .ok (.aload_n 0, 1) := by decide +kernel
theorem d_Latin1_charAt_2 : decode b_Latin1_charAt 2 = .ok (.arraylength, 1) := by decide +kernel
theorem d_Latin1_charAt_3 : decode b_Latin1_charAt 3 = .ok (.invokestatic 9, 3) := by decide +kernel
theorem d_Latin1_charAt_6 : decode b_Latin1_charAt 6 = .ok (.aload_n 0, 1) := by decide +kernel
theorem d_Latin1_charAt_7 : decode b_Latin1_charAt 7 = .ok (.iload_n 1, 1) := by decide +kernel
theorem d_Latin1_charAt_8 : decode b_Latin1_charAt 8 = .ok (.baload, 1) := by decide +kernel
theorem d_Latin1_charAt_9 : decode b_Latin1_charAt 9 = .ok (.sipush 255, 3) := by decide +kernel
theorem d_Latin1_charAt_12 : decode b_Latin1_charAt 12 = .ok (.iand, 1) := by decide +kernel
theorem d_Latin1_charAt_13 : decode b_Latin1_charAt 13 = .ok (.i2c, 1) := by decide +kernel
theorem d_Latin1_charAt_14 : decode b_Latin1_charAt 14 = .ok (.ireturn, 1) := by decide +kernel
theorem d_Precond_checkIndex_0 : decode b_Precond_checkIndex 0 = .ok (.iload_n 0, 1) := by decide +kernel
theorem d_Precond_checkIndex_1 : decode b_Precond_checkIndex 1 = .ok (.ifCond .lt 8, 3) := by decide +kernel
theorem d_Precond_checkIndex_4 : decode b_Precond_checkIndex 4 = .ok (.iload_n 0, 1) := by decide +kernel
theorem d_Precond_checkIndex_5 : decode b_Precond_checkIndex 5 = .ok (.iload_n 1, 1) := by decide +kernel
theorem d_Precond_checkIndex_6 : decode b_Precond_checkIndex 6 = .ok (.if_icmp .lt 10, 3) := by decide +kernel
theorem d_Precond_checkIndex_9 : decode b_Precond_checkIndex 9 = .ok (.aload_n 2, 1) := by decide +kernel
theorem d_Precond_checkIndex_10 : decode b_Precond_checkIndex 10 = .ok (.iload_n 0, 1) := by decide +kernel
theorem d_Precond_checkIndex_11 : decode b_Precond_checkIndex 11 = .ok (.iload_n 1, 1) := by decide +kernel
theorem d_Precond_checkIndex_12 : decode b_Precond_checkIndex 12 = .ok (.invokestatic 95, 3) := by decide +kernel
theorem d_Precond_checkIndex_15 : decode b_Precond_checkIndex 15 = .ok (.athrow, 1) := by decide +kernel
theorem d_Precond_checkIndex_16 : decode b_Precond_checkIndex 16 = .ok (.iload_n 0, 1) := by decide +kernel
theorem d_Precond_checkIndex_17 : decode b_Precond_checkIndex 17 = .ok (.ireturn, 1) := by decide +kernel
abbrev rm_String_coder : Room := { frames := 0, cells := 0, slots := 0, locals := 0 }
abbrev rm_String_length : Room := { frames := 1, cells := 0, slots := 0, locals := 20 }
abbrev rm_Precond_checkIndex : Room := { frames := 0, cells := 0, slots := 0, locals := 0 }
abbrev rm_String_checkIndex : Room := { frames := 1, cells := 0, slots := 0, locals := 22 }
abbrev rm_Latin1_charAt : Room := { frames := 2, cells := 0, slots := 0, locals := 43 }
abbrev rm_String_charAt : Room := { frames := 3, cells := 0, slots := 0, locals := 64 }
theorem c_String_coder {l : Launch} {G : zLA} {i : Nat} (hi : i < 12) {σ : zSt} : zM l G y_String_coder (zws y_String_coder b_String_coder 1 (some .byte)) rm_String_coder [.ref (zsa G (10 + i))] σ (some (.int 0)) σ := by
  refine z_ofM (own := "java/lang/String") (lv := [(0, .ref (zsa G (10 + i)))]) (by decide +kernel) rfl rfl (Nat.le_of_ble_eq_true rfl) (fun p e s m args below meth c C => ?_)
  refine zs_compact C zq513 d_String_coder_0 ?_
  refine z_if_eq (tgt := 13) C d_String_coder_3 rfl (fun h => absurd h (by decide)) (fun _ => ?_)
  refine z_aload_n C d_String_coder_6 0 rfl rfl ?_
  refine zs_coder C i hi zq1773 d_String_coder_7 ?_
  refine z_goto (tgt := 14) C d_String_coder_10 rfl ?_
  exact z_zret C rfl rfl (Nat.le_of_ble_eq_true rfl) (Nat.le_of_ble_eq_true rfl) d_String_coder_14
theorem c_String_isLatin1 {l : Launch} {G : zLA} {i : Nat} (hi : i < 12) {σ : zSt} : zM l G y_String_isLatin1 (zws y_String_isLatin1 b_String_isLatin1 1 (some .boolean)) rm_String_coder [.ref (zsa G (10 + i))] σ (some (.int 1)) σ := by
  refine z_ofM (own := "java/lang/String") (lv := [(0, .ref (zsa G (10 + i)))]) (by decide +kernel) rfl rfl (Nat.le_of_ble_eq_true rfl) (fun p e s m args below meth c C => ?_)
  refine zs_compact C zq513 d_String_isLatin1_0 ?_
  refine z_if_eq (tgt := 17) C d_String_isLatin1_3 rfl (fun h => absurd h (by decide)) (fun _ => ?_)
  refine z_aload_n C d_String_isLatin1_6 0 rfl rfl ?_
  refine zs_coder C i hi zq1773 d_String_isLatin1_7 ?_
  refine z_if_ne (tgt := 17) C d_String_isLatin1_10 rfl (fun h => absurd rfl h) (fun _ => ?_)
  refine z_iconst C d_String_isLatin1_13 zki_1 ?_
  refine z_goto (tgt := 18) C d_String_isLatin1_14 rfl ?_
  exact z_zret C rfl rfl (Nat.le_of_ble_eq_true rfl) (Nat.le_of_ble_eq_true rfl) d_String_isLatin1_18
def F_String_length (i : Nat) : Option Int32 := some (Int32.ofNat (zsb i).length)
theorem zshr0 (x : Int32) : x >>> ((0 : Int32) &&& 31) = x := by
  apply Int32.toInt_inj.mp
  rw [pk_shr x ((0 : Int32) &&& 31) 0 (by decide)]
  exact Int.shiftRight_zero _
theorem c_String_length {l : Launch} {G : zLA} {i : Nat} (hi : i < 12) {σ : zSt} {r : Int32} (hf : F_String_length i = some r) : zM l G y_String_length (zws y_String_length b_String_length 1 (some .int)) rm_String_length [.ref (zsa G (10 + i))] σ (some (.int r)) σ := by
  cases hf
  refine z_ofM (own := "java/lang/String") (lv := [(0, .ref (zsa G (10 + i)))]) (by decide +kernel) rfl rfl (Nat.le_of_ble_eq_true rfl) (fun p e s m args below meth c C => ?_)
  refine z_aload_n C d_String_length_0 0 rfl rfl ?_
  refine zs_value C i hi zq1772 d_String_length_1 ?_
  refine zs_len C i hi d_String_length_4 ?_
  refine z_aload_n C d_String_length_5 0 rfl rfl ?_
  refine z_cTi C kl_String_335 hi (c_String_coder hi) rfl rfl (Nat.le_of_ble_eq_true rfl) ⟨Nat.le_of_ble_eq_true rfl, Nat.le_of_ble_eq_true rfl⟩ ⟨Nat.le_of_ble_eq_true rfl, Nat.le_of_ble_eq_true rfl⟩ d_String_length_6 ?_
  refine z_ishr C d_String_length_9 ?_
  rw [zshr0]
  exact z_iret C rfl (Nat.le_of_ble_eq_true rfl) (Nat.le_of_ble_eq_true rfl) d_String_length_10
theorem c_Precond_checkIndex {l : Launch} {G : zLA} {a b : Int32} {u : Value} (hu : u = .null ∨ ∃ t : Nat, u = .ref t) {σ : zSt} (h1 : ¬ a < 0) (h2 : a < b) : zM l G y_Precond_checkIndex (zws y_Precond_checkIndex b_Precond_checkIndex 3 (some .int)) rm_Precond_checkIndex [.int a, .int b, u] σ (some (.int a)) σ := by
  have key : ∀ u : Value, (lg_sl [Value.int a, Value.int b, u]).length ≤ 3 → zM l G y_Precond_checkIndex (zws y_Precond_checkIndex b_Precond_checkIndex 3 (some .int)) rm_Precond_checkIndex [.int a, .int b, u] σ (some (.int a)) σ := by
    intro u hc
    refine z_ofM (own := "jdk/internal/util/Preconditions") (lv := [(0, .int a), (1, .int b), (2, u)]) (by decide +kernel) rfl rfl hc (fun p e s m args below meth c C => ?_)
    refine z_iload_n C d_Precond_checkIndex_0 0 rfl rfl ?_
    refine z_if_lt (tgt := 9) C d_Precond_checkIndex_1 rfl (fun h => absurd h h1) (fun _ => ?_)
    refine z_iload_n C d_Precond_checkIndex_4 0 rfl rfl ?_
    refine z_iload_n C d_Precond_checkIndex_5 1 rfl rfl ?_
    refine z_icmp_lt (tgt := 16) C d_Precond_checkIndex_6 rfl (fun _ => ?_) (fun h => absurd h2 h)
    refine z_iload_n C d_Precond_checkIndex_16 0 rfl rfl ?_
    exact z_iret C rfl (Nat.le_of_ble_eq_true rfl) (Nat.le_of_ble_eq_true rfl) d_Precond_checkIndex_17
  rcases hu with rfl | ⟨t, rfl⟩
  · exact key _ (Nat.le_of_ble_eq_true rfl)
  · exact key _ (Nat.le_of_ble_eq_true rfl)
theorem c_String_checkIndex {l : Launch} {G : zLA} {a b : Int32} {σ : zSt} (h1 : ¬ a < 0) (h2 : a < b) : zM l G y_String_checkIndex (zws y_String_checkIndex b_String_checkIndex 2 none) rm_String_checkIndex [.int a, .int b] σ none σ := by
  refine z_ofM (own := "java/lang/String") (lv := [(0, .int a), (1, .int b)]) (by decide +kernel) rfl rfl (Nat.le_of_ble_eq_true rfl) (fun p e s m args below meth c C => ?_)
  refine z_iload_n C d_String_checkIndex_0 0 rfl rfl ?_
  refine z_iload_n C d_String_checkIndex_1 1 rfl rfl ?_
  refine zs_fmt C zq529 d_String_checkIndex_2 (fun u hu => ?_)
  refine z_cSi C kl_String_1059 (c_Precond_checkIndex hu h1 h2) rfl rfl (Nat.le_of_ble_eq_true rfl) ⟨Nat.le_of_ble_eq_true rfl, Nat.le_of_ble_eq_true rfl⟩ ⟨Nat.le_of_ble_eq_true rfl, Nat.le_of_ble_eq_true rfl⟩ d_String_checkIndex_5 ?_
  refine z_pop C d_String_checkIndex_8 rfl ?_
  exact z_vret C rfl (Nat.le_of_ble_eq_true rfl) (Nat.le_of_ble_eq_true rfl) d_String_checkIndex_9
def F_String_charAt (i : Nat) (k : Int32) : Option Int32 := if inb k (zsb i).length = true then some ((zsb i).getD k.toNatClampNeg 0) else none
theorem zsb_byte : ∀ i, i < 12 → (zsb i).length < 2 ^ 31 ∧ ∀ x ∈ zsb i, ((x &&& 255).toUInt32 % 65536).toInt32 = x ∧ narrow .char (.int x) = .int x := by decide +kernel
theorem c_Latin1_charAt {l : Launch} {G : zLA} {i : Nat} (hi : i < 12) {k : Int32} {σ : zSt} (hk : inb k (zsb i).length = true) : zM l G y_Latin1_charAt (zws y_Latin1_charAt b_Latin1_charAt 2 (some .char)) rm_Latin1_charAt [.ref (zsa G (40 + i)), .int k] σ (some (.int ((zsb i).getD k.toNatClampNeg 0))) σ := by
  refine z_ofM (own := "java/lang/StringLatin1") (lv := [(0, .ref (zsa G (40 + i))), (1, .int k)]) (by decide +kernel) rfl rfl (Nat.le_of_ble_eq_true rfl) (fun p e s m args below meth c C => ?_)
  have hk1 : ¬ k < 0 := by simp only [inb, Bool.and_eq_true, decide_eq_true_eq] at hk; exact hk.1
  have hk2 : k.toNatClampNeg < (zsb i).length := by simp only [inb, Bool.and_eq_true, decide_eq_true_eq] at hk; exact hk.2
  have hN := (zsb_byte i hi).1
  obtain ⟨j, hj, rfl⟩ := vp_in_of (inb_in hk) hN
  refine z_iload_n C d_Latin1_charAt_0 1 rfl rfl ?_
  refine z_aload_n C d_Latin1_charAt_1 0 rfl rfl ?_
  refine zs_len C i hi d_Latin1_charAt_2 ?_
  refine z_cSv C kl_Latin1_9 (c_String_checkIndex hk1 (nI_lt hj hN)) rfl rfl (Nat.le_of_ble_eq_true rfl) ⟨Nat.le_of_ble_eq_true rfl, Nat.le_of_ble_eq_true rfl⟩ ⟨Nat.le_of_ble_eq_true rfl, Nat.le_of_ble_eq_true rfl⟩ d_Latin1_charAt_3 ?_
  refine z_aload_n C d_Latin1_charAt_6 0 rfl rfl ?_
  refine z_iload_n C d_Latin1_charAt_7 1 rfl rfl ?_
  refine zs_bld C i hi (inb_in hk) d_Latin1_charAt_8 ?_
  refine z_sipush C d_Latin1_charAt_9 (v := 255) (by decide) ?_
  refine z_iand C d_Latin1_charAt_12 ?_
  refine z_i2c C d_Latin1_charAt_13 ?_
  have hm : (zsb i).getD (nI j).toNatClampNeg 0 ∈ zsb i := by
    rw [List.getD_eq_getElem?_getD, List.getElem?_eq_getElem hk2]
    exact List.getElem_mem _
  obtain ⟨e1, e2⟩ := (zsb_byte i hi).2 _ hm
  rw [e1]
  exact z_zret C rfl e2 (Nat.le_of_ble_eq_true rfl) (Nat.le_of_ble_eq_true rfl) d_Latin1_charAt_14
theorem c_String_charAt {l : Launch} {G : zLA} {i : Nat} (hi : i < 12) {k : Int32} {σ : zSt} {r : Int32} (hf : F_String_charAt i k = some r) : zM l G y_String_charAt (zws y_String_charAt b_String_charAt 2 (some .char)) rm_String_charAt [.ref (zsa G (10 + i)), .int k] σ (some (.int r)) σ := by
  rw [F_String_charAt] at hf
  obtain ⟨hk, hf⟩ := iff_g hf
  cases hf
  refine z_ofM (own := "java/lang/String") (lv := [(0, .ref (zsa G (10 + i))), (1, .int k)]) (by decide +kernel) rfl rfl (Nat.le_of_ble_eq_true rfl) (fun p e s m args below meth c C => ?_)
  refine z_aload_n C d_String_charAt_0 0 rfl rfl ?_
  refine z_cTi C kl_String_492 hi (c_String_isLatin1 hi) rfl rfl (Nat.le_of_ble_eq_true rfl) ⟨Nat.le_of_ble_eq_true rfl, Nat.le_of_ble_eq_true rfl⟩ ⟨Nat.le_of_ble_eq_true rfl, Nat.le_of_ble_eq_true rfl⟩ d_String_charAt_1 ?_
  refine z_if_eq (tgt := 16) C d_String_charAt_4 rfl (fun h => absurd h (by decide)) (fun _ => ?_)
  refine z_aload_n C d_String_charAt_7 0 rfl rfl ?_
  refine zs_value C i hi zq1772 d_String_charAt_8 ?_
  refine z_iload_n C d_String_charAt_11 1 rfl rfl ?_
  refine z_cSi C kl_String_495 (c_Latin1_charAt hi hk) rfl rfl (Nat.le_of_ble_eq_true rfl) ⟨Nat.le_of_ble_eq_true rfl, Nat.le_of_ble_eq_true rfl⟩ ⟨Nat.le_of_ble_eq_true rfl, Nat.le_of_ble_eq_true rfl⟩ d_String_charAt_12 ?_
  have hN := (zsb_byte i hi).1
  have hk2 : k.toNatClampNeg < (zsb i).length := by simp only [inb, Bool.and_eq_true, decide_eq_true_eq] at hk; exact hk.2
  have hm : (zsb i).getD k.toNatClampNeg 0 ∈ zsb i := by
    rw [List.getD_eq_getElem?_getD, List.getElem?_eq_getElem hk2]
    exact List.getElem_mem _
  exact z_zret C rfl ((zsb_byte i hi).2 _ hm).2 (Nat.le_of_ble_eq_true rfl) (Nat.le_of_ble_eq_true rfl) d_String_charAt_15
