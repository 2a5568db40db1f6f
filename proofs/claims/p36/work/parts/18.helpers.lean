theorem zop_r {k : Int32} {q : Nat} (h : ¬ k = 0) : some (zop k q) = some (.ref q) := by rw [zop, if_neg h]
abbrev zwsW (y : MethodName) (b : ByteArray) (ml : Nat) (rt : Option FieldType) (hh : List (Nat × Nat × Nat × Nat)) : List Cond := Cond.codeWith y b ml rt hh :: zGW
def zLSH (own : String) (index : Nat) (y : MethodName) (b : ByteArray) (ml : Nat) (rt : Option FieldType) (hh : List (Nat × Nat × Nat × Nat)) (n : Nat) : Prop :=
  Cond.methodLink own index y ∈ zGW ∧ Cond.static y ∈ zGW ∧ Cond.initialized y.cls ∈ zGW ∧ Cond.codeWith y b ml rt hh ∈ zGW ∧ (y.cls ≠ "java/lang/invoke/MethodHandle" ∧ y.cls ≠ "java/lang/invoke/VarHandle" ∧ (parseMethodDescriptor y.desc).map (fun d => d.parameters.length) = some n)
section ZL
variable {G : zLA} {p : Program} {l : Launch} {e : Env} {R : Room} {s : State} {m : MethodId} {args : Array Value} {below : List Frame} {meth : Method} {c : Code} {cells slots : Nat} {Q : State → Prop} {own : String} {cc : ByteArray} {nL : Nat} {ret : Option FieldType} {pc : Nat} {lv : List (Nat × Value)} {st : List Value} {σ : zSt}
theorem z_lv {lv1 : List (Nat × Value)} (h : lv = lv1) (k : zWV G p l e R s m args below meth c nL cells slots Q pc lv1 st σ) : zWV G p l e R s m args below meth c nL cells slots Q pc lv st σ := by subst h; exact k
theorem z_ofMW {y : MethodName} {b : ByteArray} {ml : Nat} {rt : Option FieldType} {hh : List (Nat × Nat × Nat × Nat)} {rm : Room} {as : List Value} {σ' : zSt} {ov : Option Value} (hy : plainName y.cls = true) (hcl : y.cls = own) (hlv : lv_args 0 as = lv) (hsz : (lg_sl as).length ≤ ml)
    (body : ∀ (p : Program) (e : Env) (s : State) (m : MethodId) (args : Array Value) (below : List Frame) (meth : Method) (c : Code), zCx G p s m args meth c own b ml rt → c.exceptionTable.toList = tableOf hh → zWV G p l e rm s m args below meth c ml 0 0 (zQ G below args s rm ov σ') 0 lv [] σ) : zM l G y (zwsW y b ml rt hh) rm as σ ov σ' := by
  intro sz
  refine va_MetW (cc := b) (maxL := ml) (ret := rt) (hh := hh) hy rfl ?_
  intro p e s m args below meth c s₁ B hml hv
  obtain ⟨rfl, hsz0, hP, hK, hD0, hN, hF, hLk⟩ := hv
  subst hsz0
  have hts := atoms_spec (ws := zwsW y b ml rt hh) B.pre
  have hown : s.vm.findClass own = some m.cls := by rw [← hcl]; exact findClass_of_methodNamed B.named
  have htab := vx_table (x := y) (y := y) B (hts _ List.mem_cons_self)
  have hl := lv_entry as (n := ml) hsz
  rw [lg_entry_eq]
  subst hlv
  exact body p e s m _ below meth c ⟨B.exec, B.bytes, hml, B.returns, B.notSynchronized, hown, fun w hw => hts w (List.mem_cons_of_mem _ hw), hN, hK, hF, hLk⟩ htab _ _ [] hl hP (zD_A hD0) va_S.rf
theorem z_catch (C : zCx G p s m args meth c own cc nL ret) {E name : String} (pre : List ExceptionTableEntry) (x : ExceptionTableEntry) (suf : List ExceptionTableEntry) (hsplit : c.exceptionTable.toList = pre ++ x :: suf) (hpass : ∀ z ∈ pre, covers z pc = false ∨ (z.catchType ≠ 0 ∧ ∃ nm : String, Cond.classLink own z.catchType nm ∈ zGW ∧ va_Nc E nm s)) (hx : covers x pc = true) (h0 : x.catchType ≠ 0) (hlink : Cond.classLink own x.catchType name ∈ zGW) (hcast : Cond.castable E name ∈ zNW)
    (kk : ∀ q : Nat, zWV G p l e R s m args below meth c nL cells slots Q x.handlerPc lv [.ref q] σ) : zWX G p l e R s m args below meth c nL cells slots Q pc lv st σ E := by
  intro ls H locs q ce hl hP hD hS hq hv hcl
  exact vx_catch C.o pre x suf hsplit (fun z hz => (hpass z hz).elim Or.inl (fun ⟨a, nm, b, d⟩ => Or.inr ⟨a, nm, C.t _ b, d⟩)) hx h0 (C.t _ hlink) (va_Nw.use rfl (C.w _ hcast)) hq hv hcl (kk q ls H locs hl hP hD hS)
theorem z_callH (C : zCx G p s m args meth c own cc nL ret) {index n : Nat} {y : MethodName} {b : ByteArray} {ml : Nat} {rt : Option FieldType} {hh : List (Nat × Nat × Nat × Nat)} {rm : Room} {as rest : List Value} {σ' : zSt} {ov : Option Value} (hL : zLSH own index y b ml rt hh n) (M : zM l G y (zwsW y b ml rt hh) rm as σ ov σ') (hn : as.length = n) (hst : st = as.reverse ++ rest) (hrest : (rest.map fun v => v.category).sum ≤ 8) (hR : rm.frames + 1 ≤ R.frames ∧ 8 + (ml + 11) + rm.locals ≤ R.locals) (hcs : cells + rm.cells ≤ R.cells ∧ slots + rm.slots ≤ R.slots) (d : decode cc pc = .ok (.invokestatic index, 3)) (kk : zWV G p l e R s m args below meth c nL (cells + rm.cells) (slots + rm.slots) Q (pc + 3) lv (ov.toList ++ rest) σ') : zWV G p l e R s m args below meth c nL cells slots Q pc lv st σ := by
  subst hst
  intro ls H locs hl hP hD hS
  obtain ⟨h1, h2, h3, h4, h7⟩ := hL
  have hg : GoodIn zGW (va_wsS own index y (zwsW y b ml rt hh)) := by
    intro w hw
    have hw' : w ∈ zGW := by
      unfold va_wsS at hw
      simp only [List.mem_append, List.mem_cons, List.not_mem_nil, or_false] at hw
      rcases hw with (rfl | rfl | rfl) | rfl | hw <;> assumption
    exact ⟨hw', good_of_word (List.mem_filter.mp hw').2⟩
  exact z_back (vx_runSW (As := as) (rest := rest) ⟨C.x, C.b, C.n, C.o, C.t⟩ (M H.size) (vx_cwSW n C.t hg rfl rfl rfl h7 hR) ⟨zPre.blind, zPre.of _ C.K C.w C.F C.L hP hD hS⟩ rfl hn hl.1 rfl (lv_room hrest) d hcs) hS hl hD kk
theorem z_cHi (C : zCx G p s m args meth c own cc nL ret) {index n : Nat} {y : MethodName} {b : ByteArray} {ml : Nat} {rt : Option FieldType} {hh : List (Nat × Nat × Nat × Nat)} {rm : Room} {as rest : List Value} {σ' : zSt} {r : Int32} (hL : zLSH own index y b ml rt hh n) (M : zM l G y (zwsW y b ml rt hh) rm as σ (some (.int r)) σ') (hn : as.length = n) (hst : st = as.reverse ++ rest) (hrest : (rest.map fun v => v.category).sum ≤ 8) (hR : rm.frames + 1 ≤ R.frames ∧ 8 + (ml + 11) + rm.locals ≤ R.locals) (hcs : cells + rm.cells ≤ R.cells ∧ slots + rm.slots ≤ R.slots) (d : decode cc pc = .ok (.invokestatic index, 3)) (kk : zWV G p l e R s m args below meth c nL (cells + rm.cells) (slots + rm.slots) Q (pc + 3) lv (.int r :: rest) σ') : zWV G p l e R s m args below meth c nL cells slots Q pc lv st σ := z_callH C hL M hn hst hrest hR hcs d kk
theorem z_cHd (C : zCx G p s m args meth c own cc nL ret) {index n : Nat} {y : MethodName} {b : ByteArray} {ml : Nat} {rt : Option FieldType} {hh : List (Nat × Nat × Nat × Nat)} {rm : Room} {as rest : List Value} {σ' : zSt} {r : UInt64} (hL : zLSH own index y b ml rt hh n) (M : zM l G y (zwsW y b ml rt hh) rm as σ (some (.double r)) σ') (hn : as.length = n) (hst : st = as.reverse ++ rest) (hrest : (rest.map fun v => v.category).sum ≤ 8) (hR : rm.frames + 1 ≤ R.frames ∧ 8 + (ml + 11) + rm.locals ≤ R.locals) (hcs : cells + rm.cells ≤ R.cells ∧ slots + rm.slots ≤ R.slots) (d : decode cc pc = .ok (.invokestatic index, 3)) (kk : zWV G p l e R s m args below meth c nL (cells + rm.cells) (slots + rm.slots) Q (pc + 3) lv (.double r :: rest) σ') : zWV G p l e R s m args below meth c nL cells slots Q pc lv st σ := z_callH C hL M hn hst hrest hR hcs d kk
theorem pf_scr (C : zCx G p s m args meth c "VillageWavesLaw" cc nL ret) (hm : zml G) (d : decode cc pc = .ok (.putfield 18, 3)) (kk : zWV G p l e R s m args below meth c nL cells slots Q (pc + 3) lv st (zst σ 4 80 1 1)) : zWV G p l e R s m args below meth c nL cells slots Q pc lv (.ref (zsa G 3) :: .ref (zad G 4 80) :: st) σ := by
  intro ls H locs hl hP hD hS
  obtain ⟨q, hq⟩ := zin hm
  have e := zwd_set (G := G) C.L (σ := σ) (σ' := zst σ 4 80 1 1) (e := .inr (9, [.ref (zad G 4 70), .ref (zsa G 3), .int (σ.1 4 80 2)])) hq (by rw [zct_st_self]; rfl) (fun _ _ _ h => zct_st h)
  exact va_put (D := zD G) C.x C.b C.t zin_9 zt9 zy9 zn9 C.o C.K hP hD hS q ((zwd_at G σ hq).trans rfl) rfl 1 (by decide) (C.t _ zq379) (fun x hx => hx) rfl rfl rfl rfl (Nat.le_of_ble_eq_true rfl) d (fun H1 locs1 hP1 hD1 hS1 => kk ls H1 locs1 hl (e ▸ hP1) (e ▸ hD1) hS1)
end ZL

theorem kh_Law_set : zLSH "VillageWavesLaw" 137 y_Law_set b_Law_set 4 (some .int) [(0, 6, 7, 43)] 3 := ⟨zq560, zq561, zq27, zq562, ⟨by decide, by decide, by decide +kernel⟩⟩
theorem kh_Law_addHouse : zLSH "VillageWavesLaw" 131 y_Law_addHouse b_Law_addHouse 7 (some .int) [(0, 11, 12, 43), (0, 11, 17, 45)] 6 := ⟨zq409, zq410, zq27, zq411, ⟨by decide, by decide, by decide +kernel⟩⟩
theorem kh_Law_setQuiet : zLSH "VillageWavesLaw" 134 y_Law_setQuiet b_Law_setQuiet 5 (some .int) [(0, 8, 9, 51), (0, 8, 14, 43)] 4 := ⟨zq530, zq531, zq27, zq532, ⟨by decide, by decide, by decide +kernel⟩⟩
theorem kh_Law_seed : zLSH "VillageWavesLaw" 141 y_Law_seed b_Law_seed 3 (some .int) [(0, 6, 7, 43)] 2 := ⟨zq574, zq575, zq27, zq576, ⟨by decide, by decide, by decide +kernel⟩⟩
theorem kh_Law_count : zLSH "VillageWavesLaw" 144 y_Law_count b_Law_count 3 (some .int) [(0, 5, 6, 43)] 2 := ⟨zq586, zq587, zq27, zq588, ⟨by decide, by decide, by decide +kernel⟩⟩
theorem kh_Law_news : zLSH "VillageWavesLaw" 146 y_Law_news b_Law_news 4 (some .int) [(0, 6, 7, 51), (0, 6, 11, 43)] 3 := ⟨zq691, zq692, zq27, zq693, ⟨by decide, by decide, by decide +kernel⟩⟩
theorem kh_Law_source : zLSH "VillageWavesLaw" 148 y_Law_source b_Law_source 4 (some .int) [(0, 6, 7, 51)] 3 := ⟨zq949, zq950, zq27, zq951, ⟨by decide, by decide, by decide +kernel⟩⟩
theorem kh_Law_owes : zLSH "VillageWavesLaw" 150 y_Law_owes b_Law_owes 4 (some .int) [(0, 6, 7, 51)] 3 := ⟨zq738, zq739, zq27, zq740, ⟨by decide, by decide, by decide +kernel⟩⟩
theorem kh_Law_house : zLSH "VillageWavesLaw" 152 y_Law_house b_Law_house 4 (some .int) [(0, 6, 7, 51), (0, 6, 11, 43)] 3 := ⟨zq632, zq633, zq27, zq634, ⟨by decide, by decide, by decide +kernel⟩⟩
theorem kh_Law_entry : zLSH "VillageWavesLaw" 154 y_Law_entry b_Law_entry 5 (some .int) [(0, 7, 8, 51), (0, 7, 13, 43)] 4 := ⟨zq961, zq962, zq27, zq963, ⟨by decide, by decide, by decide +kernel⟩⟩
theorem kh_Law_ahead : zLSH "VillageWavesLaw" 162 y_Law_ahead b_Law_ahead 4 (some .int) [(0, 6, 7, 43)] 3 := ⟨zq839, zq840, zq27, zq841, ⟨by decide, by decide, by decide +kernel⟩⟩
theorem kh_Law_chance : zLSH "VillageWavesLaw" 172 y_Law_chance b_Law_chance 3 (some .double) [(0, 5, 6, 51)] 2 := ⟨zq906, zq907, zq27, zq908, ⟨by decide, by decide, by decide +kernel⟩⟩
theorem kh_Law_run : zLSH "VillageWavesLaw" 179 y_Law_run b_Law_run 3 (some .int) [(0, 5, 6, 43)] 2 := ⟨zq917, zq918, zq27, zq919, ⟨by decide, by decide, by decide +kernel⟩⟩
theorem kh_Law_spoken : zLSH "VillageWavesLaw" 181 y_Law_spoken b_Law_spoken 4 (some .int) [(0, 6, 7, 43)] 3 := ⟨zq924, zq925, zq27, zq926, ⟨by decide, by decide, by decide +kernel⟩⟩
theorem kh_Law_correct : zLSH "VillageWavesLaw" 185 y_Law_correct b_Law_correct 5 (some .int) [(0, 7, 8, 51), (0, 7, 13, 43)] 4 := ⟨zq704, zq705, zq27, zq706, ⟨by decide, by decide, by decide +kernel⟩⟩
theorem kh_Law_tell : zLSH "VillageWavesLaw" 183 y_Law_tell b_Law_tell 4 (some .int) [(0, 6, 7, 51), (0, 6, 11, 43)] 3 := ⟨zq661, zq662, zq27, zq663, ⟨by decide, by decide, by decide +kernel⟩⟩
theorem kh_Law_reached : zLSH "VillageWavesLaw" 187 y_Law_reached b_Law_reached 5 (some .int) [(0, 7, 8, 51), (0, 7, 13, 43)] 4 := ⟨zq989, zq990, zq27, zq991, ⟨by decide, by decide, by decide +kernel⟩⟩
theorem kh_Law_correctedIn : zLSH "VillageWavesLaw" 189 y_Law_correctedIn b_Law_correctedIn 4 (some .int) [(0, 6, 7, 51), (0, 6, 11, 43)] 3 := ⟨zq996, zq997, zq27, zq998, ⟨by decide, by decide, by decide +kernel⟩⟩
theorem kh_Law_save : zLSH "VillageWavesLaw" 191 y_Law_save b_Law_save 3 (some .int) [(0, 6, 7, 43)] 2 := ⟨zq1004, zq1005, zq27, zq1006, ⟨by decide, by decide, by decide +kernel⟩⟩
theorem kh_Law_restore : zLSH "VillageWavesLaw" 193 y_Law_restore b_Law_restore 3 (some .int) [(0, 6, 7, 43), (0, 6, 11, 45)] 2 := ⟨zq1016, zq1017, zq27, zq1018, ⟨by decide, by decide, by decide +kernel⟩⟩
theorem kh_Law_bestAuthor : zLSH "VillageWavesLaw" 195 y_Law_bestAuthor b_Law_bestAuthor 3 (some .int) [(0, 5, 6, 43)] 2 := ⟨zq1028, zq1029, zq27, zq1030, ⟨by decide, by decide, by decide +kernel⟩⟩
theorem kh_Law_charge : zLSH "VillageWavesLaw" 212 y_Law_charge b_Law_charge 4 (some .int) [(0, 6, 7, 51), (0, 6, 11, 43)] 3 := ⟨zq937, zq938, zq27, zq939, ⟨by decide, by decide, by decide +kernel⟩⟩
abbrev rm_Law_addHouse : Room := { frames := 8, cells := 0, slots := 0, locals := 139 }
theorem d_Law_addHouse_0 : decode b_Law_addHouse 0 = .ok (.aload_n 0, 1) := by decide +kernel
theorem d_Law_addHouse_1 : decode b_Law_addHouse 1 = .ok (.iload_n 1, 1) := by decide +kernel
theorem d_Law_addHouse_2 : decode b_Law_addHouse 2 = .ok (.iload_n 2, 1) := by decide +kernel
theorem d_Law_addHouse_3 : decode b_Law_addHouse 3 = .ok (.iload_n 3, 1) := by decide +kernel
theorem d_Law_addHouse_4 : decode b_Law_addHouse 4 = .ok (.iload 4, 2) := by decide +kernel
theorem d_Law_addHouse_6 : decode b_Law_addHouse 6 = .ok (.iload 5, 2) := by decide +kernel
theorem d_Law_addHouse_8 : decode b_Law_addHouse 8 = .ok (.invokevirtual 39, 3) := by decide +kernel
theorem d_Law_addHouse_11 : decode b_Law_addHouse 11 = .ok (.ireturn, 1) := by decide +kernel
theorem d_Law_addHouse_12 : decode b_Law_addHouse 12 = .ok (.astore 6, 2) := by decide +kernel
theorem d_Law_addHouse_14 : decode b_Law_addHouse 14 = .ok (.bipush (-102), 2) := by decide +kernel
theorem d_Law_addHouse_16 : decode b_Law_addHouse 16 = .ok (.ireturn, 1) := by decide +kernel
theorem d_Law_addHouse_17 : decode b_Law_addHouse 17 = .ok (.astore 6, 2) := by decide +kernel
theorem d_Law_addHouse_19 : decode b_Law_addHouse 19 = .ok (.bipush (-103), 2) := by decide +kernel
theorem d_Law_addHouse_21 : decode b_Law_addHouse 21 = .ok (.ireturn, 1) := by decide +kernel
def F_Law_addHouse (a0 : Int32) (a1 : Int32) (a2 : Int32) (a3 : Int32) (a4 : Int32) (σ : zSt) : Option (Int32 × zSt) := F_Waves_addHouse a0 a1 a2 a3 a4 σ
set_option maxHeartbeats 4000000 in
set_option maxRecDepth 100000 in
theorem c_Law_addHouse {l : Launch} {G : zLA} (hx : zxl G) {a0 : Int32} {a1 : Int32} {a2 : Int32} {a3 : Int32} {a4 : Int32} {σ σ' : zSt} {r : Int32} (hf : F_Law_addHouse a0 a1 a2 a3 a4 σ = some (r, σ')) : zM l G y_Law_addHouse (zwsW y_Law_addHouse b_Law_addHouse 7 (some .int) [(0, 11, 12, 43), (0, 11, 17, 45)]) rm_Law_addHouse [.ref (zad G 4 70), .int a0, .int a1, .int a2, .int a3, .int a4] σ (some (.int r)) σ' := by
  refine z_ofMW (own := "VillageWavesLaw") (lv := [(0, .ref (zad G 4 70)), (1, .int a0), (2, .int a1), (3, .int a2), (4, .int a3), (5, .int a4)]) (by decide +kernel) rfl rfl (Nat.le_of_ble_eq_true rfl) (fun p e s m args below meth c C T => ?_)
  rw [F_Law_addHouse] at hf
  have h1 := hf
  refine z_aload_n C d_Law_addHouse_0 0 rfl rfl ?_
  refine z_iload_n C d_Law_addHouse_1 1 rfl rfl ?_
  refine z_iload_n C d_Law_addHouse_2 2 rfl rfl ?_
  refine z_iload_n C d_Law_addHouse_3 3 rfl rfl ?_
  refine z_iload C d_Law_addHouse_4 4 rfl ?_
  refine z_iload C d_Law_addHouse_6 5 rfl ?_
  refine z_cVi C kl_Law_39 rfl (c_Waves_addHouse hx h1) (zx4 hx 70 rfl) rfl rfl rfl (Nat.le_of_ble_eq_true rfl) ⟨(Nat.le_of_ble_eq_true rfl), (Nat.le_of_ble_eq_true rfl)⟩ ⟨(Nat.le_of_ble_eq_true rfl), (Nat.le_of_ble_eq_true rfl)⟩ d_Law_addHouse_8 ?_
  exact z_iret C rfl (Nat.le_of_ble_eq_true rfl) (Nat.le_of_ble_eq_true rfl) d_Law_addHouse_11
abbrev rm_Law_setQuiet : Room := { frames := 8, cells := 0, slots := 0, locals := 137 }
theorem d_Law_setQuiet_0 : decode b_Law_setQuiet 0 = .ok (.aload_n 0, 1) := by decide +kernel
theorem d_Law_setQuiet_1 : decode b_Law_setQuiet 1 = .ok (.iload_n 1, 1) := by decide +kernel
theorem d_Law_setQuiet_2 : decode b_Law_setQuiet 2 = .ok (.iload_n 2, 1) := by decide +kernel
theorem d_Law_setQuiet_3 : decode b_Law_setQuiet 3 = .ok (.iload_n 3, 1) := by decide +kernel
theorem d_Law_setQuiet_4 : decode b_Law_setQuiet 4 = .ok (.invokevirtual 47, 3) := by decide +kernel
theorem d_Law_setQuiet_7 : decode b_Law_setQuiet 7 = .ok (.iconst 0, 1) := by decide +kernel
theorem d_Law_setQuiet_8 : decode b_Law_setQuiet 8 = .ok (.ireturn, 1) := by decide +kernel
theorem d_Law_setQuiet_9 : decode b_Law_setQuiet 9 = .ok (.astore 4, 2) := by decide +kernel
theorem d_Law_setQuiet_11 : decode b_Law_setQuiet 11 = .ok (.bipush (-101), 2) := by decide +kernel
theorem d_Law_setQuiet_13 : decode b_Law_setQuiet 13 = .ok (.ireturn, 1) := by decide +kernel
theorem d_Law_setQuiet_14 : decode b_Law_setQuiet 14 = .ok (.astore 4, 2) := by decide +kernel
theorem d_Law_setQuiet_16 : decode b_Law_setQuiet 16 = .ok (.bipush (-102), 2) := by decide +kernel
theorem d_Law_setQuiet_18 : decode b_Law_setQuiet 18 = .ok (.ireturn, 1) := by decide +kernel
def F_Law_setQuiet (a0 : Int32) (a1 : Int32) (a2 : Int32) (σ : zSt) : Option (Int32 × zSt) := (F_Waves_setQuiet a0 a1 a2 σ).bind fun z => some ((0 : Int32), z)
set_option maxHeartbeats 4000000 in
set_option maxRecDepth 100000 in
theorem c_Law_setQuiet {l : Launch} {G : zLA} (hx : zxl G) {a0 : Int32} {a1 : Int32} {a2 : Int32} {σ σ' : zSt} {r : Int32} (hf : F_Law_setQuiet a0 a1 a2 σ = some (r, σ')) : zM l G y_Law_setQuiet (zwsW y_Law_setQuiet b_Law_setQuiet 5 (some .int) [(0, 8, 9, 51), (0, 8, 14, 43)]) rm_Law_setQuiet [.ref (zad G 4 70), .int a0, .int a1, .int a2] σ (some (.int r)) σ' := by
  refine z_ofMW (own := "VillageWavesLaw") (lv := [(0, .ref (zad G 4 70)), (1, .int a0), (2, .int a1), (3, .int a2)]) (by decide +kernel) rfl rfl (Nat.le_of_ble_eq_true rfl) (fun p e s m args below meth c C T => ?_)
  rw [F_Law_setQuiet] at hf
  obtain ⟨z, h1, hf⟩ := bd_s hf
  cases hf
  refine z_aload_n C d_Law_setQuiet_0 0 rfl rfl ?_
  refine z_iload_n C d_Law_setQuiet_1 1 rfl rfl ?_
  refine z_iload_n C d_Law_setQuiet_2 2 rfl rfl ?_
  refine z_iload_n C d_Law_setQuiet_3 3 rfl rfl ?_
  refine z_cVv C kl_Law_47 rfl (c_Waves_setQuiet hx h1) (zx4 hx 70 rfl) rfl rfl rfl (Nat.le_of_ble_eq_true rfl) ⟨(Nat.le_of_ble_eq_true rfl), (Nat.le_of_ble_eq_true rfl)⟩ ⟨(Nat.le_of_ble_eq_true rfl), (Nat.le_of_ble_eq_true rfl)⟩ d_Law_setQuiet_4 ?_
  refine z_iconst C d_Law_setQuiet_7 zki_0 ?_
  exact z_iret C rfl (Nat.le_of_ble_eq_true rfl) (Nat.le_of_ble_eq_true rfl) d_Law_setQuiet_8
abbrev rm_Law_charge : Room := { frames := 8, cells := 0, slots := 0, locals := 136 }
theorem d_Law_charge_0 : decode b_Law_charge 0 = .ok (.aload_n 0, 1) := by decide +kernel
theorem d_Law_charge_1 : decode b_Law_charge 1 = .ok (.iload_n 1, 1) := by decide +kernel
theorem d_Law_charge_2 : decode b_Law_charge 2 = .ok (.iload_n 2, 1) := by decide +kernel
theorem d_Law_charge_3 : decode b_Law_charge 3 = .ok (.invokevirtual 53, 3) := by decide +kernel
theorem d_Law_charge_6 : decode b_Law_charge 6 = .ok (.ireturn, 1) := by decide +kernel
theorem d_Law_charge_7 : decode b_Law_charge 7 = .ok (.astore_n 3, 1) := by decide +kernel
theorem d_Law_charge_8 : decode b_Law_charge 8 = .ok (.bipush (-101), 2) := by decide +kernel
theorem d_Law_charge_10 : decode b_Law_charge 10 = .ok (.ireturn, 1) := by decide +kernel
theorem d_Law_charge_11 : decode b_Law_charge 11 = .ok (.astore_n 3, 1) := by decide +kernel
theorem d_Law_charge_12 : decode b_Law_charge 12 = .ok (.bipush (-102), 2) := by decide +kernel
theorem d_Law_charge_14 : decode b_Law_charge 14 = .ok (.ireturn, 1) := by decide +kernel
def F_Law_charge (a0 : Int32) (a1 : Int32) (σ : zSt) : Option (Int32 × zSt) := F_Waves_charge a0 a1 σ
set_option maxHeartbeats 4000000 in
set_option maxRecDepth 100000 in
theorem c_Law_charge {l : Launch} {G : zLA} (hx : zxl G) {a0 : Int32} {a1 : Int32} {σ σ' : zSt} {r : Int32} (hf : F_Law_charge a0 a1 σ = some (r, σ')) : zM l G y_Law_charge (zwsW y_Law_charge b_Law_charge 4 (some .int) [(0, 6, 7, 51), (0, 6, 11, 43)]) rm_Law_charge [.ref (zad G 4 70), .int a0, .int a1] σ (some (.int r)) σ' := by
  refine z_ofMW (own := "VillageWavesLaw") (lv := [(0, .ref (zad G 4 70)), (1, .int a0), (2, .int a1)]) (by decide +kernel) rfl rfl (Nat.le_of_ble_eq_true rfl) (fun p e s m args below meth c C T => ?_)
  rw [F_Law_charge] at hf
  have h1 := hf
  refine z_aload_n C d_Law_charge_0 0 rfl rfl ?_
  refine z_iload_n C d_Law_charge_1 1 rfl rfl ?_
  refine z_iload_n C d_Law_charge_2 2 rfl rfl ?_
  refine z_cVi C kl_Law_53 rfl (c_Waves_charge hx h1) (zx4 hx 70 rfl) rfl rfl rfl (Nat.le_of_ble_eq_true rfl) ⟨(Nat.le_of_ble_eq_true rfl), (Nat.le_of_ble_eq_true rfl)⟩ ⟨(Nat.le_of_ble_eq_true rfl), (Nat.le_of_ble_eq_true rfl)⟩ d_Law_charge_3 ?_
  exact z_iret C rfl (Nat.le_of_ble_eq_true rfl) (Nat.le_of_ble_eq_true rfl) d_Law_charge_6
abbrev rm_Law_set : Room := { frames := 8, cells := 0, slots := 0, locals := 137 }
theorem d_Law_set_0 : decode b_Law_set 0 = .ok (.aload_n 0, 1) := by decide +kernel
theorem d_Law_set_1 : decode b_Law_set 1 = .ok (.iload_n 1, 1) := by decide +kernel
theorem d_Law_set_2 : decode b_Law_set 2 = .ok (.iload_n 2, 1) := by decide +kernel
theorem d_Law_set_3 : decode b_Law_set 3 = .ok (.invokevirtual 56, 3) := by decide +kernel
theorem d_Law_set_6 : decode b_Law_set 6 = .ok (.ireturn, 1) := by decide +kernel
theorem d_Law_set_7 : decode b_Law_set 7 = .ok (.astore_n 3, 1) := by decide +kernel
theorem d_Law_set_8 : decode b_Law_set 8 = .ok (.bipush (-102), 2) := by decide +kernel
theorem d_Law_set_10 : decode b_Law_set 10 = .ok (.ireturn, 1) := by decide +kernel
def F_Law_set (a0 : Int32) (a1 : Int32) (σ : zSt) : Option (Int32 × zSt) := F_Waves_set a0 a1 σ
set_option maxHeartbeats 4000000 in
set_option maxRecDepth 100000 in
theorem c_Law_set {l : Launch} {G : zLA} (hx : zxl G) {a0 : Int32} {a1 : Int32} {σ σ' : zSt} {r : Int32} (hf : F_Law_set a0 a1 σ = some (r, σ')) : zM l G y_Law_set (zwsW y_Law_set b_Law_set 4 (some .int) [(0, 6, 7, 43)]) rm_Law_set [.ref (zad G 4 70), .int a0, .int a1] σ (some (.int r)) σ' := by
  refine z_ofMW (own := "VillageWavesLaw") (lv := [(0, .ref (zad G 4 70)), (1, .int a0), (2, .int a1)]) (by decide +kernel) rfl rfl (Nat.le_of_ble_eq_true rfl) (fun p e s m args below meth c C T => ?_)
  rw [F_Law_set] at hf
  have h1 := hf
  refine z_aload_n C d_Law_set_0 0 rfl rfl ?_
  refine z_iload_n C d_Law_set_1 1 rfl rfl ?_
  refine z_iload_n C d_Law_set_2 2 rfl rfl ?_
  refine z_cVi C kl_Law_56 rfl (c_Waves_set hx h1) (zx4 hx 70 rfl) rfl rfl rfl (Nat.le_of_ble_eq_true rfl) ⟨(Nat.le_of_ble_eq_true rfl), (Nat.le_of_ble_eq_true rfl)⟩ ⟨(Nat.le_of_ble_eq_true rfl), (Nat.le_of_ble_eq_true rfl)⟩ d_Law_set_3 ?_
  exact z_iret C rfl (Nat.le_of_ble_eq_true rfl) (Nat.le_of_ble_eq_true rfl) d_Law_set_6
abbrev rm_Law_seed : Room := { frames := 8, cells := 0, slots := 0, locals := 135 }
theorem d_Law_seed_0 : decode b_Law_seed 0 = .ok (.aload_n 0, 1) := by decide +kernel
theorem d_Law_seed_1 : decode b_Law_seed 1 = .ok (.iload_n 1, 1) := by decide +kernel
theorem d_Law_seed_2 : decode b_Law_seed 2 = .ok (.invokevirtual 59, 3) := by decide +kernel
theorem d_Law_seed_5 : decode b_Law_seed 5 = .ok (.iconst 0, 1) := by decide +kernel
theorem d_Law_seed_6 : decode b_Law_seed 6 = .ok (.ireturn, 1) := by decide +kernel
theorem d_Law_seed_7 : decode b_Law_seed 7 = .ok (.astore_n 2, 1) := by decide +kernel
theorem d_Law_seed_8 : decode b_Law_seed 8 = .ok (.bipush (-102), 2) := by decide +kernel
theorem d_Law_seed_10 : decode b_Law_seed 10 = .ok (.ireturn, 1) := by decide +kernel
def F_Law_seed (a0 : Int32) (σ : zSt) : Option (Int32 × zSt) := (F_Waves_seed a0 σ).bind fun z => some ((0 : Int32), z)
set_option maxHeartbeats 4000000 in
set_option maxRecDepth 100000 in
theorem c_Law_seed {l : Launch} {G : zLA} (hx : zxl G) {a0 : Int32} {σ σ' : zSt} {r : Int32} (hf : F_Law_seed a0 σ = some (r, σ')) : zM l G y_Law_seed (zwsW y_Law_seed b_Law_seed 3 (some .int) [(0, 6, 7, 43)]) rm_Law_seed [.ref (zad G 4 70), .int a0] σ (some (.int r)) σ' := by
  refine z_ofMW (own := "VillageWavesLaw") (lv := [(0, .ref (zad G 4 70)), (1, .int a0)]) (by decide +kernel) rfl rfl (Nat.le_of_ble_eq_true rfl) (fun p e s m args below meth c C T => ?_)
  rw [F_Law_seed] at hf
  obtain ⟨z, h1, hf⟩ := bd_s hf
  cases hf
  refine z_aload_n C d_Law_seed_0 0 rfl rfl ?_
  refine z_iload_n C d_Law_seed_1 1 rfl rfl ?_
  refine z_cVv C kl_Law_59 rfl (c_Waves_seed hx h1) (zx4 hx 70 rfl) rfl rfl rfl (Nat.le_of_ble_eq_true rfl) ⟨(Nat.le_of_ble_eq_true rfl), (Nat.le_of_ble_eq_true rfl)⟩ ⟨(Nat.le_of_ble_eq_true rfl), (Nat.le_of_ble_eq_true rfl)⟩ d_Law_seed_2 ?_
  refine z_iconst C d_Law_seed_5 zki_0 ?_
  exact z_iret C rfl (Nat.le_of_ble_eq_true rfl) (Nat.le_of_ble_eq_true rfl) d_Law_seed_6
abbrev rm_Law_count : Room := { frames := 8, cells := 0, slots := 0, locals := 135 }
theorem d_Law_count_0 : decode b_Law_count 0 = .ok (.aload_n 0, 1) := by decide +kernel
theorem d_Law_count_1 : decode b_Law_count 1 = .ok (.iload_n 1, 1) := by decide +kernel
theorem d_Law_count_2 : decode b_Law_count 2 = .ok (.invokevirtual 63, 3) := by decide +kernel
theorem d_Law_count_5 : decode b_Law_count 5 = .ok (.ireturn, 1) := by decide +kernel
theorem d_Law_count_6 : decode b_Law_count 6 = .ok (.astore_n 2, 1) := by decide +kernel
theorem d_Law_count_7 : decode b_Law_count 7 = .ok (.bipush (-102), 2) := by decide +kernel
theorem d_Law_count_9 : decode b_Law_count 9 = .ok (.ireturn, 1) := by decide +kernel
def F_Law_count (a0 : Int32) (σ : zSt) : Option (Int32) := F_Waves_count a0 σ
set_option maxHeartbeats 4000000 in
set_option maxRecDepth 100000 in
theorem c_Law_count {l : Launch} {G : zLA} (hx : zxl G) {a0 : Int32} {σ : zSt} {r : Int32} (hf : F_Law_count a0 σ = some r) : zM l G y_Law_count (zwsW y_Law_count b_Law_count 3 (some .int) [(0, 5, 6, 43)]) rm_Law_count [.ref (zad G 4 70), .int a0] σ (some (.int r)) σ := by
  refine z_ofMW (own := "VillageWavesLaw") (lv := [(0, .ref (zad G 4 70)), (1, .int a0)]) (by decide +kernel) rfl rfl (Nat.le_of_ble_eq_true rfl) (fun p e s m args below meth c C T => ?_)
  rw [F_Law_count] at hf
  have h1 := hf
  refine z_aload_n C d_Law_count_0 0 rfl rfl ?_
  refine z_iload_n C d_Law_count_1 1 rfl rfl ?_
  refine z_cVi C kl_Law_63 rfl (c_Waves_count hx h1) (zx4 hx 70 rfl) rfl rfl rfl (Nat.le_of_ble_eq_true rfl) ⟨(Nat.le_of_ble_eq_true rfl), (Nat.le_of_ble_eq_true rfl)⟩ ⟨(Nat.le_of_ble_eq_true rfl), (Nat.le_of_ble_eq_true rfl)⟩ d_Law_count_2 ?_
  exact z_iret C rfl (Nat.le_of_ble_eq_true rfl) (Nat.le_of_ble_eq_true rfl) d_Law_count_5
abbrev rm_Law_house : Room := { frames := 8, cells := 0, slots := 0, locals := 136 }
theorem d_Law_house_0 : decode b_Law_house 0 = .ok (.aload_n 0, 1) := by decide +kernel
theorem d_Law_house_1 : decode b_Law_house 1 = .ok (.iload_n 1, 1) := by decide +kernel
theorem d_Law_house_2 : decode b_Law_house 2 = .ok (.iload_n 2, 1) := by decide +kernel
theorem d_Law_house_3 : decode b_Law_house 3 = .ok (.invokevirtual 67, 3) := by decide +kernel
theorem d_Law_house_6 : decode b_Law_house 6 = .ok (.ireturn, 1) := by decide +kernel
theorem d_Law_house_7 : decode b_Law_house 7 = .ok (.astore_n 3, 1) := by decide +kernel
theorem d_Law_house_8 : decode b_Law_house 8 = .ok (.bipush (-101), 2) := by decide +kernel
theorem d_Law_house_10 : decode b_Law_house 10 = .ok (.ireturn, 1) := by decide +kernel
theorem d_Law_house_11 : decode b_Law_house 11 = .ok (.astore_n 3, 1) := by decide +kernel
theorem d_Law_house_12 : decode b_Law_house 12 = .ok (.bipush (-102), 2) := by decide +kernel
theorem d_Law_house_14 : decode b_Law_house 14 = .ok (.ireturn, 1) := by decide +kernel
def F_Law_house (a0 : Int32) (a1 : Int32) (σ : zSt) : Option (Int32) := F_Waves_house a0 a1 σ
set_option maxHeartbeats 4000000 in
set_option maxRecDepth 100000 in
theorem c_Law_house {l : Launch} {G : zLA} (hx : zxl G) {a0 : Int32} {a1 : Int32} {σ : zSt} {r : Int32} (hf : F_Law_house a0 a1 σ = some r) : zM l G y_Law_house (zwsW y_Law_house b_Law_house 4 (some .int) [(0, 6, 7, 51), (0, 6, 11, 43)]) rm_Law_house [.ref (zad G 4 70), .int a0, .int a1] σ (some (.int r)) σ := by
  refine z_ofMW (own := "VillageWavesLaw") (lv := [(0, .ref (zad G 4 70)), (1, .int a0), (2, .int a1)]) (by decide +kernel) rfl rfl (Nat.le_of_ble_eq_true rfl) (fun p e s m args below meth c C T => ?_)
  rw [F_Law_house] at hf
  have h1 := hf
  refine z_aload_n C d_Law_house_0 0 rfl rfl ?_
  refine z_iload_n C d_Law_house_1 1 rfl rfl ?_
  refine z_iload_n C d_Law_house_2 2 rfl rfl ?_
  refine z_cVi C kl_Law_67 rfl (c_Waves_house hx h1) (zx4 hx 70 rfl) rfl rfl rfl (Nat.le_of_ble_eq_true rfl) ⟨(Nat.le_of_ble_eq_true rfl), (Nat.le_of_ble_eq_true rfl)⟩ ⟨(Nat.le_of_ble_eq_true rfl), (Nat.le_of_ble_eq_true rfl)⟩ d_Law_house_3 ?_
  exact z_iret C rfl (Nat.le_of_ble_eq_true rfl) (Nat.le_of_ble_eq_true rfl) d_Law_house_6
abbrev rm_Law_entry : Room := { frames := 8, cells := 0, slots := 0, locals := 139 }
theorem d_Law_entry_0 : decode b_Law_entry 0 = .ok (.aload_n 0, 1) := by decide +kernel
theorem d_Law_entry_1 : decode b_Law_entry 1 = .ok (.iload_n 1, 1) := by decide +kernel
theorem d_Law_entry_2 : decode b_Law_entry 2 = .ok (.iload_n 2, 1) := by decide +kernel
theorem d_Law_entry_3 : decode b_Law_entry 3 = .ok (.iload_n 3, 1) := by decide +kernel
theorem d_Law_entry_4 : decode b_Law_entry 4 = .ok (.invokevirtual 70, 3) := by decide +kernel
theorem d_Law_entry_7 : decode b_Law_entry 7 = .ok (.ireturn, 1) := by decide +kernel
theorem d_Law_entry_8 : decode b_Law_entry 8 = .ok (.astore 4, 2) := by decide +kernel
theorem d_Law_entry_10 : decode b_Law_entry 10 = .ok (.bipush (-101), 2) := by decide +kernel
theorem d_Law_entry_12 : decode b_Law_entry 12 = .ok (.ireturn, 1) := by decide +kernel
theorem d_Law_entry_13 : decode b_Law_entry 13 = .ok (.astore 4, 2) := by decide +kernel
theorem d_Law_entry_15 : decode b_Law_entry 15 = .ok (.bipush (-102), 2) := by decide +kernel
theorem d_Law_entry_17 : decode b_Law_entry 17 = .ok (.ireturn, 1) := by decide +kernel
def F_Law_entry (a0 : Int32) (a1 : Int32) (a2 : Int32) (σ : zSt) : Option (Int32) := F_Waves_entry a0 a1 a2 σ
set_option maxHeartbeats 4000000 in
set_option maxRecDepth 100000 in
theorem c_Law_entry {l : Launch} {G : zLA} (hx : zxl G) {a0 : Int32} {a1 : Int32} {a2 : Int32} {σ : zSt} {r : Int32} (hf : F_Law_entry a0 a1 a2 σ = some r) : zM l G y_Law_entry (zwsW y_Law_entry b_Law_entry 5 (some .int) [(0, 7, 8, 51), (0, 7, 13, 43)]) rm_Law_entry [.ref (zad G 4 70), .int a0, .int a1, .int a2] σ (some (.int r)) σ := by
  refine z_ofMW (own := "VillageWavesLaw") (lv := [(0, .ref (zad G 4 70)), (1, .int a0), (2, .int a1), (3, .int a2)]) (by decide +kernel) rfl rfl (Nat.le_of_ble_eq_true rfl) (fun p e s m args below meth c C T => ?_)
  rw [F_Law_entry] at hf
  have h1 := hf
  refine z_aload_n C d_Law_entry_0 0 rfl rfl ?_
  refine z_iload_n C d_Law_entry_1 1 rfl rfl ?_
  refine z_iload_n C d_Law_entry_2 2 rfl rfl ?_
  refine z_iload_n C d_Law_entry_3 3 rfl rfl ?_
  refine z_cVi C kl_Law_70 rfl (c_Waves_entry hx h1) (zx4 hx 70 rfl) rfl rfl rfl (Nat.le_of_ble_eq_true rfl) ⟨(Nat.le_of_ble_eq_true rfl), (Nat.le_of_ble_eq_true rfl)⟩ ⟨(Nat.le_of_ble_eq_true rfl), (Nat.le_of_ble_eq_true rfl)⟩ d_Law_entry_4 ?_
  exact z_iret C rfl (Nat.le_of_ble_eq_true rfl) (Nat.le_of_ble_eq_true rfl) d_Law_entry_7
abbrev rm_Law_news : Room := { frames := 8, cells := 0, slots := 0, locals := 136 }
theorem d_Law_news_0 : decode b_Law_news 0 = .ok (.aload_n 0, 1) := by decide +kernel
theorem d_Law_news_1 : decode b_Law_news 1 = .ok (.iload_n 1, 1) := by decide +kernel
theorem d_Law_news_2 : decode b_Law_news 2 = .ok (.iload_n 2, 1) := by decide +kernel
theorem d_Law_news_3 : decode b_Law_news 3 = .ok (.invokevirtual 74, 3) := by decide +kernel
theorem d_Law_news_6 : decode b_Law_news 6 = .ok (.ireturn, 1) := by decide +kernel
theorem d_Law_news_7 : decode b_Law_news 7 = .ok (.astore_n 3, 1) := by decide +kernel
theorem d_Law_news_8 : decode b_Law_news 8 = .ok (.bipush (-101), 2) := by decide +kernel
theorem d_Law_news_10 : decode b_Law_news 10 = .ok (.ireturn, 1) := by decide +kernel
theorem d_Law_news_11 : decode b_Law_news 11 = .ok (.astore_n 3, 1) := by decide +kernel
theorem d_Law_news_12 : decode b_Law_news 12 = .ok (.bipush (-102), 2) := by decide +kernel
theorem d_Law_news_14 : decode b_Law_news 14 = .ok (.ireturn, 1) := by decide +kernel
def F_Law_news (a0 : Int32) (a1 : Int32) (σ : zSt) : Option (Int32) := F_Waves_news a0 a1 σ
set_option maxHeartbeats 4000000 in
set_option maxRecDepth 100000 in
theorem c_Law_news {l : Launch} {G : zLA} (hx : zxl G) {a0 : Int32} {a1 : Int32} {σ : zSt} {r : Int32} (hf : F_Law_news a0 a1 σ = some r) : zM l G y_Law_news (zwsW y_Law_news b_Law_news 4 (some .int) [(0, 6, 7, 51), (0, 6, 11, 43)]) rm_Law_news [.ref (zad G 4 70), .int a0, .int a1] σ (some (.int r)) σ := by
  refine z_ofMW (own := "VillageWavesLaw") (lv := [(0, .ref (zad G 4 70)), (1, .int a0), (2, .int a1)]) (by decide +kernel) rfl rfl (Nat.le_of_ble_eq_true rfl) (fun p e s m args below meth c C T => ?_)
  rw [F_Law_news] at hf
  have h1 := hf
  refine z_aload_n C d_Law_news_0 0 rfl rfl ?_
  refine z_iload_n C d_Law_news_1 1 rfl rfl ?_
  refine z_iload_n C d_Law_news_2 2 rfl rfl ?_
  refine z_cVi C kl_Law_74 rfl (c_Waves_news hx h1) (zx4 hx 70 rfl) rfl rfl rfl (Nat.le_of_ble_eq_true rfl) ⟨(Nat.le_of_ble_eq_true rfl), (Nat.le_of_ble_eq_true rfl)⟩ ⟨(Nat.le_of_ble_eq_true rfl), (Nat.le_of_ble_eq_true rfl)⟩ d_Law_news_3 ?_
  exact z_iret C rfl (Nat.le_of_ble_eq_true rfl) (Nat.le_of_ble_eq_true rfl) d_Law_news_6
abbrev rm_Law_source : Room := { frames := 8, cells := 0, slots := 0, locals := 135 }
theorem d_Law_source_0 : decode b_Law_source 0 = .ok (.aload_n 0, 1) := by decide +kernel
theorem d_Law_source_1 : decode b_Law_source 1 = .ok (.iload_n 1, 1) := by decide +kernel
theorem d_Law_source_2 : decode b_Law_source 2 = .ok (.iload_n 2, 1) := by decide +kernel
theorem d_Law_source_3 : decode b_Law_source 3 = .ok (.invokevirtual 77, 3) := by decide +kernel
theorem d_Law_source_6 : decode b_Law_source 6 = .ok (.ireturn, 1) := by decide +kernel
theorem d_Law_source_7 : decode b_Law_source 7 = .ok (.astore_n 3, 1) := by decide +kernel
theorem d_Law_source_8 : decode b_Law_source 8 = .ok (.bipush (-101), 2) := by decide +kernel
theorem d_Law_source_10 : decode b_Law_source 10 = .ok (.ireturn, 1) := by decide +kernel
def F_Law_source (a0 : Int32) (a1 : Int32) (σ : zSt) : Option (Int32) := F_Waves_source a0 a1 σ
set_option maxHeartbeats 4000000 in
set_option maxRecDepth 100000 in
theorem c_Law_source {l : Launch} {G : zLA} (hx : zxl G) {a0 : Int32} {a1 : Int32} {σ : zSt} {r : Int32} (hf : F_Law_source a0 a1 σ = some r) : zM l G y_Law_source (zwsW y_Law_source b_Law_source 4 (some .int) [(0, 6, 7, 51)]) rm_Law_source [.ref (zad G 4 70), .int a0, .int a1] σ (some (.int r)) σ := by
  refine z_ofMW (own := "VillageWavesLaw") (lv := [(0, .ref (zad G 4 70)), (1, .int a0), (2, .int a1)]) (by decide +kernel) rfl rfl (Nat.le_of_ble_eq_true rfl) (fun p e s m args below meth c C T => ?_)
  rw [F_Law_source] at hf
  have h1 := hf
  refine z_aload_n C d_Law_source_0 0 rfl rfl ?_
  refine z_iload_n C d_Law_source_1 1 rfl rfl ?_
  refine z_iload_n C d_Law_source_2 2 rfl rfl ?_
  refine z_cVi C kl_Law_77 rfl (c_Waves_source hx h1) (zx4 hx 70 rfl) rfl rfl rfl (Nat.le_of_ble_eq_true rfl) ⟨(Nat.le_of_ble_eq_true rfl), (Nat.le_of_ble_eq_true rfl)⟩ ⟨(Nat.le_of_ble_eq_true rfl), (Nat.le_of_ble_eq_true rfl)⟩ d_Law_source_3 ?_
  exact z_iret C rfl (Nat.le_of_ble_eq_true rfl) (Nat.le_of_ble_eq_true rfl) d_Law_source_6
abbrev rm_Law_owes : Room := { frames := 8, cells := 0, slots := 0, locals := 135 }
theorem d_Law_owes_0 : decode b_Law_owes 0 = .ok (.aload_n 0, 1) := by decide +kernel
theorem d_Law_owes_1 : decode b_Law_owes 1 = .ok (.iload_n 1, 1) := by decide +kernel
theorem d_Law_owes_2 : decode b_Law_owes 2 = .ok (.iload_n 2, 1) := by decide +kernel
theorem d_Law_owes_3 : decode b_Law_owes 3 = .ok (.invokevirtual 80, 3) := by decide +kernel
theorem d_Law_owes_6 : decode b_Law_owes 6 = .ok (.ireturn, 1) := by decide +kernel
theorem d_Law_owes_7 : decode b_Law_owes 7 = .ok (.astore_n 3, 1) := by decide +kernel
theorem d_Law_owes_8 : decode b_Law_owes 8 = .ok (.bipush (-101), 2) := by decide +kernel
theorem d_Law_owes_10 : decode b_Law_owes 10 = .ok (.ireturn, 1) := by decide +kernel
def F_Law_owes (a0 : Int32) (a1 : Int32) (σ : zSt) : Option (Int32) := F_Waves_owes a0 a1 σ
set_option maxHeartbeats 4000000 in
set_option maxRecDepth 100000 in
theorem c_Law_owes {l : Launch} {G : zLA} (hx : zxl G) {a0 : Int32} {a1 : Int32} {σ : zSt} {r : Int32} (hf : F_Law_owes a0 a1 σ = some r) : zM l G y_Law_owes (zwsW y_Law_owes b_Law_owes 4 (some .int) [(0, 6, 7, 51)]) rm_Law_owes [.ref (zad G 4 70), .int a0, .int a1] σ (some (.int r)) σ := by
  refine z_ofMW (own := "VillageWavesLaw") (lv := [(0, .ref (zad G 4 70)), (1, .int a0), (2, .int a1)]) (by decide +kernel) rfl rfl (Nat.le_of_ble_eq_true rfl) (fun p e s m args below meth c C T => ?_)
  rw [F_Law_owes] at hf
  have h1 := hf
  refine z_aload_n C d_Law_owes_0 0 rfl rfl ?_
  refine z_iload_n C d_Law_owes_1 1 rfl rfl ?_
  refine z_iload_n C d_Law_owes_2 2 rfl rfl ?_
  refine z_cVi C kl_Law_80 rfl (c_Waves_owes hx h1) (zx4 hx 70 rfl) rfl rfl rfl (Nat.le_of_ble_eq_true rfl) ⟨(Nat.le_of_ble_eq_true rfl), (Nat.le_of_ble_eq_true rfl)⟩ ⟨(Nat.le_of_ble_eq_true rfl), (Nat.le_of_ble_eq_true rfl)⟩ d_Law_owes_3 ?_
  exact z_iret C rfl (Nat.le_of_ble_eq_true rfl) (Nat.le_of_ble_eq_true rfl) d_Law_owes_6
abbrev rm_Law_spoken : Room := { frames := 8, cells := 0, slots := 0, locals := 136 }
theorem d_Law_spoken_0 : decode b_Law_spoken 0 = .ok (.aload_n 0, 1) := by decide +kernel
theorem d_Law_spoken_1 : decode b_Law_spoken 1 = .ok (.iload_n 1, 1) := by decide +kernel
theorem d_Law_spoken_2 : decode b_Law_spoken 2 = .ok (.iload_n 2, 1) := by decide +kernel
theorem d_Law_spoken_3 : decode b_Law_spoken 3 = .ok (.invokevirtual 83, 3) := by decide +kernel
theorem d_Law_spoken_6 : decode b_Law_spoken 6 = .ok (.ireturn, 1) := by decide +kernel
theorem d_Law_spoken_7 : decode b_Law_spoken 7 = .ok (.astore_n 3, 1) := by decide +kernel
theorem d_Law_spoken_8 : decode b_Law_spoken 8 = .ok (.bipush (-102), 2) := by decide +kernel
theorem d_Law_spoken_10 : decode b_Law_spoken 10 = .ok (.ireturn, 1) := by decide +kernel
def F_Law_spoken (a0 : Int32) (a1 : Int32) (σ : zSt) : Option (Int32) := F_Waves_spoken a0 a1 σ
set_option maxHeartbeats 4000000 in
set_option maxRecDepth 100000 in
theorem c_Law_spoken {l : Launch} {G : zLA} (hx : zxl G) {a0 : Int32} {a1 : Int32} {σ : zSt} {r : Int32} (hf : F_Law_spoken a0 a1 σ = some r) : zM l G y_Law_spoken (zwsW y_Law_spoken b_Law_spoken 4 (some .int) [(0, 6, 7, 43)]) rm_Law_spoken [.ref (zad G 4 70), .int a0, .int a1] σ (some (.int r)) σ := by
  refine z_ofMW (own := "VillageWavesLaw") (lv := [(0, .ref (zad G 4 70)), (1, .int a0), (2, .int a1)]) (by decide +kernel) rfl rfl (Nat.le_of_ble_eq_true rfl) (fun p e s m args below meth c C T => ?_)
  rw [F_Law_spoken] at hf
  have h1 := hf
  refine z_aload_n C d_Law_spoken_0 0 rfl rfl ?_
  refine z_iload_n C d_Law_spoken_1 1 rfl rfl ?_
  refine z_iload_n C d_Law_spoken_2 2 rfl rfl ?_
  refine z_cVi C kl_Law_83 rfl (c_Waves_spoken hx h1) (zx4 hx 70 rfl) rfl rfl rfl (Nat.le_of_ble_eq_true rfl) ⟨(Nat.le_of_ble_eq_true rfl), (Nat.le_of_ble_eq_true rfl)⟩ ⟨(Nat.le_of_ble_eq_true rfl), (Nat.le_of_ble_eq_true rfl)⟩ d_Law_spoken_3 ?_
  exact z_iret C rfl (Nat.le_of_ble_eq_true rfl) (Nat.le_of_ble_eq_true rfl) d_Law_spoken_6
abbrev rm_Law_tell : Room := { frames := 8, cells := 0, slots := 0, locals := 136 }
theorem d_Law_tell_0 : decode b_Law_tell 0 = .ok (.aload_n 0, 1) := by decide +kernel
theorem d_Law_tell_1 : decode b_Law_tell 1 = .ok (.iload_n 1, 1) := by decide +kernel
theorem d_Law_tell_2 : decode b_Law_tell 2 = .ok (.iload_n 2, 1) := by decide +kernel
theorem d_Law_tell_3 : decode b_Law_tell 3 = .ok (.invokevirtual 86, 3) := by decide +kernel
theorem d_Law_tell_6 : decode b_Law_tell 6 = .ok (.ireturn, 1) := by decide +kernel
theorem d_Law_tell_7 : decode b_Law_tell 7 = .ok (.astore_n 3, 1) := by decide +kernel
theorem d_Law_tell_8 : decode b_Law_tell 8 = .ok (.bipush (-101), 2) := by decide +kernel
theorem d_Law_tell_10 : decode b_Law_tell 10 = .ok (.ireturn, 1) := by decide +kernel
theorem d_Law_tell_11 : decode b_Law_tell 11 = .ok (.astore_n 3, 1) := by decide +kernel
theorem d_Law_tell_12 : decode b_Law_tell 12 = .ok (.bipush (-102), 2) := by decide +kernel
theorem d_Law_tell_14 : decode b_Law_tell 14 = .ok (.ireturn, 1) := by decide +kernel
def F_Law_tell (a0 : Int32) (a1 : Int32) (σ : zSt) : Option (Int32 × zSt) := F_Waves_tell a0 a1 σ
set_option maxHeartbeats 4000000 in
set_option maxRecDepth 100000 in
theorem c_Law_tell {l : Launch} {G : zLA} (hx : zxl G) {a0 : Int32} {a1 : Int32} {σ σ' : zSt} {r : Int32} (hf : F_Law_tell a0 a1 σ = some (r, σ')) : zM l G y_Law_tell (zwsW y_Law_tell b_Law_tell 4 (some .int) [(0, 6, 7, 51), (0, 6, 11, 43)]) rm_Law_tell [.ref (zad G 4 70), .int a0, .int a1] σ (some (.int r)) σ' := by
  refine z_ofMW (own := "VillageWavesLaw") (lv := [(0, .ref (zad G 4 70)), (1, .int a0), (2, .int a1)]) (by decide +kernel) rfl rfl (Nat.le_of_ble_eq_true rfl) (fun p e s m args below meth c C T => ?_)
  rw [F_Law_tell] at hf
  have h1 := hf
  refine z_aload_n C d_Law_tell_0 0 rfl rfl ?_
  refine z_iload_n C d_Law_tell_1 1 rfl rfl ?_
  refine z_iload_n C d_Law_tell_2 2 rfl rfl ?_
  refine z_cVi C kl_Law_86 rfl (c_Waves_tell hx h1) (zx4 hx 70 rfl) rfl rfl rfl (Nat.le_of_ble_eq_true rfl) ⟨(Nat.le_of_ble_eq_true rfl), (Nat.le_of_ble_eq_true rfl)⟩ ⟨(Nat.le_of_ble_eq_true rfl), (Nat.le_of_ble_eq_true rfl)⟩ d_Law_tell_3 ?_
  exact z_iret C rfl (Nat.le_of_ble_eq_true rfl) (Nat.le_of_ble_eq_true rfl) d_Law_tell_6
abbrev rm_Law_correct : Room := { frames := 8, cells := 0, slots := 0, locals := 137 }
theorem d_Law_correct_0 : decode b_Law_correct 0 = .ok (.aload_n 0, 1) := by decide +kernel
theorem d_Law_correct_1 : decode b_Law_correct 1 = .ok (.iload_n 1, 1) := by decide +kernel
theorem d_Law_correct_2 : decode b_Law_correct 2 = .ok (.iload_n 2, 1) := by decide +kernel
theorem d_Law_correct_3 : decode b_Law_correct 3 = .ok (.iload_n 3, 1) := by decide +kernel
theorem d_Law_correct_4 : decode b_Law_correct 4 = .ok (.invokevirtual 89, 3) := by decide +kernel
theorem d_Law_correct_7 : decode b_Law_correct 7 = .ok (.ireturn, 1) := by decide +kernel
theorem d_Law_correct_8 : decode b_Law_correct 8 = .ok (.astore 4, 2) := by decide +kernel
theorem d_Law_correct_10 : decode b_Law_correct 10 = .ok (.bipush (-101), 2) := by decide +kernel
theorem d_Law_correct_12 : decode b_Law_correct 12 = .ok (.ireturn, 1) := by decide +kernel
theorem d_Law_correct_13 : decode b_Law_correct 13 = .ok (.astore 4, 2) := by decide +kernel
theorem d_Law_correct_15 : decode b_Law_correct 15 = .ok (.bipush (-102), 2) := by decide +kernel
theorem d_Law_correct_17 : decode b_Law_correct 17 = .ok (.ireturn, 1) := by decide +kernel
def F_Law_correct (a0 : Int32) (a1 : Int32) (a2 : Int32) (σ : zSt) : Option (Int32 × zSt) := F_Waves_correct a0 a1 a2 σ
set_option maxHeartbeats 4000000 in
set_option maxRecDepth 100000 in
theorem c_Law_correct {l : Launch} {G : zLA} (hx : zxl G) {a0 : Int32} {a1 : Int32} {a2 : Int32} {σ σ' : zSt} {r : Int32} (hf : F_Law_correct a0 a1 a2 σ = some (r, σ')) : zM l G y_Law_correct (zwsW y_Law_correct b_Law_correct 5 (some .int) [(0, 7, 8, 51), (0, 7, 13, 43)]) rm_Law_correct [.ref (zad G 4 70), .int a0, .int a1, .int a2] σ (some (.int r)) σ' := by
  refine z_ofMW (own := "VillageWavesLaw") (lv := [(0, .ref (zad G 4 70)), (1, .int a0), (2, .int a1), (3, .int a2)]) (by decide +kernel) rfl rfl (Nat.le_of_ble_eq_true rfl) (fun p e s m args below meth c C T => ?_)
  rw [F_Law_correct] at hf
  have h1 := hf
  refine z_aload_n C d_Law_correct_0 0 rfl rfl ?_
  refine z_iload_n C d_Law_correct_1 1 rfl rfl ?_
  refine z_iload_n C d_Law_correct_2 2 rfl rfl ?_
  refine z_iload_n C d_Law_correct_3 3 rfl rfl ?_
  refine z_cVi C kl_Law_89 rfl (c_Waves_correct hx h1) (zx4 hx 70 rfl) rfl rfl rfl (Nat.le_of_ble_eq_true rfl) ⟨(Nat.le_of_ble_eq_true rfl), (Nat.le_of_ble_eq_true rfl)⟩ ⟨(Nat.le_of_ble_eq_true rfl), (Nat.le_of_ble_eq_true rfl)⟩ d_Law_correct_4 ?_
  exact z_iret C rfl (Nat.le_of_ble_eq_true rfl) (Nat.le_of_ble_eq_true rfl) d_Law_correct_7
abbrev rm_Law_run : Room := { frames := 8, cells := 0, slots := 0, locals := 164 }
theorem d_Law_run_0 : decode b_Law_run 0 = .ok (.aload_n 0, 1) := by decide +kernel
theorem d_Law_run_1 : decode b_Law_run 1 = .ok (.iload_n 1, 1) := by decide +kernel
theorem d_Law_run_2 : decode b_Law_run 2 = .ok (.invokevirtual 92, 3) := by decide +kernel
theorem d_Law_run_5 : decode b_Law_run 5 = .ok (.ireturn, 1) := by decide +kernel
theorem d_Law_run_6 : decode b_Law_run 6 = .ok (.astore_n 2, 1) := by decide +kernel
theorem d_Law_run_7 : decode b_Law_run 7 = .ok (.bipush (-102), 2) := by decide +kernel
theorem d_Law_run_9 : decode b_Law_run 9 = .ok (.ireturn, 1) := by decide +kernel
def F_Law_run (a0 : Int32) (σ : zSt) : Option (Int32 × zSt) := F_Waves_run a0 σ
set_option maxHeartbeats 4000000 in
set_option maxRecDepth 100000 in
theorem c_Law_run {l : Launch} {G : zLA} (hx : zxl G) {a0 : Int32} {σ σ' : zSt} {r : Int32} (hf : F_Law_run a0 σ = some (r, σ')) : zM l G y_Law_run (zwsW y_Law_run b_Law_run 3 (some .int) [(0, 5, 6, 43)]) rm_Law_run [.ref (zad G 4 70), .int a0] σ (some (.int r)) σ' := by
  refine z_ofMW (own := "VillageWavesLaw") (lv := [(0, .ref (zad G 4 70)), (1, .int a0)]) (by decide +kernel) rfl rfl (Nat.le_of_ble_eq_true rfl) (fun p e s m args below meth c C T => ?_)
  rw [F_Law_run] at hf
  have h1 := hf
  refine z_aload_n C d_Law_run_0 0 rfl rfl ?_
  refine z_iload_n C d_Law_run_1 1 rfl rfl ?_
  refine z_cVi C kl_Law_92 rfl (c_Waves_run hx h1) (zx4 hx 70 rfl) rfl rfl rfl (Nat.le_of_ble_eq_true rfl) ⟨(Nat.le_of_ble_eq_true rfl), (Nat.le_of_ble_eq_true rfl)⟩ ⟨(Nat.le_of_ble_eq_true rfl), (Nat.le_of_ble_eq_true rfl)⟩ d_Law_run_2 ?_
  exact z_iret C rfl (Nat.le_of_ble_eq_true rfl) (Nat.le_of_ble_eq_true rfl) d_Law_run_5
abbrev rm_Law_chance : Room := { frames := 8, cells := 0, slots := 0, locals := 196 }
theorem d_Law_chance_0 : decode b_Law_chance 0 = .ok (.aload_n 0, 1) := by decide +kernel
theorem d_Law_chance_1 : decode b_Law_chance 1 = .ok (.iload_n 1, 1) := by decide +kernel
theorem d_Law_chance_2 : decode b_Law_chance 2 = .ok (.invokevirtual 95, 3) := by decide +kernel
theorem d_Law_chance_5 : decode b_Law_chance 5 = .ok (.dreturn, 1) := by decide +kernel
theorem d_Law_chance_6 : decode b_Law_chance 6 = .ok (.astore_n 2, 1) := by decide +kernel
theorem d_Law_chance_7 : decode b_Law_chance 7 = .ok (.ldc2_w 99, 3) := by decide +kernel
theorem d_Law_chance_10 : decode b_Law_chance 10 = .ok (.dreturn, 1) := by decide +kernel
def F_Law_chance (a0 : Int32) (σ : zSt) : Option (UInt64 × zSt) := F_Waves_chance a0 σ
set_option maxHeartbeats 4000000 in
set_option maxRecDepth 100000 in
theorem c_Law_chance {l : Launch} {G : zLA} (hx : zxl G) {a0 : Int32} {σ σ' : zSt} {r : UInt64} (hf : F_Law_chance a0 σ = some (r, σ')) : zM l G y_Law_chance (zwsW y_Law_chance b_Law_chance 3 (some .double) [(0, 5, 6, 51)]) rm_Law_chance [.ref (zad G 4 70), .int a0] σ (some (.double r)) σ' := by
  refine z_ofMW (own := "VillageWavesLaw") (lv := [(0, .ref (zad G 4 70)), (1, .int a0)]) (by decide +kernel) rfl rfl (Nat.le_of_ble_eq_true rfl) (fun p e s m args below meth c C T => ?_)
  rw [F_Law_chance] at hf
  have h1 := hf
  refine z_aload_n C d_Law_chance_0 0 rfl rfl ?_
  refine z_iload_n C d_Law_chance_1 1 rfl rfl ?_
  refine z_cVd C kl_Law_95 rfl (c_Waves_chance hx h1) (zx4 hx 70 rfl) rfl rfl rfl (Nat.le_of_ble_eq_true rfl) ⟨(Nat.le_of_ble_eq_true rfl), (Nat.le_of_ble_eq_true rfl)⟩ ⟨(Nat.le_of_ble_eq_true rfl), (Nat.le_of_ble_eq_true rfl)⟩ d_Law_chance_2 ?_
  exact z_dret C rfl (Nat.le_of_ble_eq_true rfl) (Nat.le_of_ble_eq_true rfl) d_Law_chance_5
abbrev rm_Law_reached : Room := { frames := 8, cells := 0, slots := 0, locals := 176 }
theorem d_Law_reached_0 : decode b_Law_reached 0 = .ok (.aload_n 0, 1) := by decide +kernel
theorem d_Law_reached_1 : decode b_Law_reached 1 = .ok (.iload_n 1, 1) := by decide +kernel
theorem d_Law_reached_2 : decode b_Law_reached 2 = .ok (.iload_n 2, 1) := by decide +kernel
theorem d_Law_reached_3 : decode b_Law_reached 3 = .ok (.iload_n 3, 1) := by decide +kernel
theorem d_Law_reached_4 : decode b_Law_reached 4 = .ok (.invokevirtual 110, 3) := by decide +kernel
theorem d_Law_reached_7 : decode b_Law_reached 7 = .ok (.ireturn, 1) := by decide +kernel
theorem d_Law_reached_8 : decode b_Law_reached 8 = .ok (.astore 4, 2) := by decide +kernel
theorem d_Law_reached_10 : decode b_Law_reached 10 = .ok (.bipush (-101), 2) := by decide +kernel
theorem d_Law_reached_12 : decode b_Law_reached 12 = .ok (.ireturn, 1) := by decide +kernel
theorem d_Law_reached_13 : decode b_Law_reached 13 = .ok (.astore 4, 2) := by decide +kernel
theorem d_Law_reached_15 : decode b_Law_reached 15 = .ok (.bipush (-102), 2) := by decide +kernel
theorem d_Law_reached_17 : decode b_Law_reached 17 = .ok (.ireturn, 1) := by decide +kernel
def F_Law_reached (a0 : Int32) (a1 : Int32) (a2 : Int32) (σ : zSt) : Option (Int32 × zSt) := F_Waves_reached a0 a1 a2 σ
set_option maxHeartbeats 4000000 in
set_option maxRecDepth 100000 in
theorem c_Law_reached {l : Launch} {G : zLA} (hx : zxl G) {a0 : Int32} {a1 : Int32} {a2 : Int32} {σ σ' : zSt} {r : Int32} (hf : F_Law_reached a0 a1 a2 σ = some (r, σ')) : zM l G y_Law_reached (zwsW y_Law_reached b_Law_reached 5 (some .int) [(0, 7, 8, 51), (0, 7, 13, 43)]) rm_Law_reached [.ref (zad G 4 70), .int a0, .int a1, .int a2] σ (some (.int r)) σ' := by
  refine z_ofMW (own := "VillageWavesLaw") (lv := [(0, .ref (zad G 4 70)), (1, .int a0), (2, .int a1), (3, .int a2)]) (by decide +kernel) rfl rfl (Nat.le_of_ble_eq_true rfl) (fun p e s m args below meth c C T => ?_)
  rw [F_Law_reached] at hf
  have h1 := hf
  refine z_aload_n C d_Law_reached_0 0 rfl rfl ?_
  refine z_iload_n C d_Law_reached_1 1 rfl rfl ?_
  refine z_iload_n C d_Law_reached_2 2 rfl rfl ?_
  refine z_iload_n C d_Law_reached_3 3 rfl rfl ?_
  refine z_cVi C kl_Law_110 rfl (c_Waves_reached hx h1) (zx4 hx 70 rfl) rfl rfl rfl (Nat.le_of_ble_eq_true rfl) ⟨(Nat.le_of_ble_eq_true rfl), (Nat.le_of_ble_eq_true rfl)⟩ ⟨(Nat.le_of_ble_eq_true rfl), (Nat.le_of_ble_eq_true rfl)⟩ d_Law_reached_4 ?_
  exact z_iret C rfl (Nat.le_of_ble_eq_true rfl) (Nat.le_of_ble_eq_true rfl) d_Law_reached_7
abbrev rm_Law_correctedIn : Room := { frames := 8, cells := 0, slots := 0, locals := 176 }
theorem d_Law_correctedIn_0 : decode b_Law_correctedIn 0 = .ok (.aload_n 0, 1) := by decide +kernel
theorem d_Law_correctedIn_1 : decode b_Law_correctedIn 1 = .ok (.iload_n 1, 1) := by decide +kernel
theorem d_Law_correctedIn_2 : decode b_Law_correctedIn 2 = .ok (.iload_n 2, 1) := by decide +kernel
theorem d_Law_correctedIn_3 : decode b_Law_correctedIn 3 = .ok (.invokevirtual 113, 3) := by decide +kernel
theorem d_Law_correctedIn_6 : decode b_Law_correctedIn 6 = .ok (.ireturn, 1) := by decide +kernel
theorem d_Law_correctedIn_7 : decode b_Law_correctedIn 7 = .ok (.astore_n 3, 1) := by decide +kernel
theorem d_Law_correctedIn_8 : decode b_Law_correctedIn 8 = .ok (.bipush (-101), 2) := by decide +kernel
theorem d_Law_correctedIn_10 : decode b_Law_correctedIn 10 = .ok (.ireturn, 1) := by decide +kernel
theorem d_Law_correctedIn_11 : decode b_Law_correctedIn 11 = .ok (.astore_n 3, 1) := by decide +kernel
theorem d_Law_correctedIn_12 : decode b_Law_correctedIn 12 = .ok (.bipush (-102), 2) := by decide +kernel
theorem d_Law_correctedIn_14 : decode b_Law_correctedIn 14 = .ok (.ireturn, 1) := by decide +kernel
def F_Law_correctedIn (a0 : Int32) (a1 : Int32) (σ : zSt) : Option (Int32 × zSt) := F_Waves_correctedIn a0 a1 σ
set_option maxHeartbeats 4000000 in
set_option maxRecDepth 100000 in
theorem c_Law_correctedIn {l : Launch} {G : zLA} (hx : zxl G) {a0 : Int32} {a1 : Int32} {σ σ' : zSt} {r : Int32} (hf : F_Law_correctedIn a0 a1 σ = some (r, σ')) : zM l G y_Law_correctedIn (zwsW y_Law_correctedIn b_Law_correctedIn 4 (some .int) [(0, 6, 7, 51), (0, 6, 11, 43)]) rm_Law_correctedIn [.ref (zad G 4 70), .int a0, .int a1] σ (some (.int r)) σ' := by
  refine z_ofMW (own := "VillageWavesLaw") (lv := [(0, .ref (zad G 4 70)), (1, .int a0), (2, .int a1)]) (by decide +kernel) rfl rfl (Nat.le_of_ble_eq_true rfl) (fun p e s m args below meth c C T => ?_)
  rw [F_Law_correctedIn] at hf
  have h1 := hf
  refine z_aload_n C d_Law_correctedIn_0 0 rfl rfl ?_
  refine z_iload_n C d_Law_correctedIn_1 1 rfl rfl ?_
  refine z_iload_n C d_Law_correctedIn_2 2 rfl rfl ?_
  refine z_cVi C kl_Law_113 rfl (c_Waves_correctedIn hx h1) (zx4 hx 70 rfl) rfl rfl rfl (Nat.le_of_ble_eq_true rfl) ⟨(Nat.le_of_ble_eq_true rfl), (Nat.le_of_ble_eq_true rfl)⟩ ⟨(Nat.le_of_ble_eq_true rfl), (Nat.le_of_ble_eq_true rfl)⟩ d_Law_correctedIn_3 ?_
  exact z_iret C rfl (Nat.le_of_ble_eq_true rfl) (Nat.le_of_ble_eq_true rfl) d_Law_correctedIn_6
abbrev rm_Law_ahead : Room := { frames := 8, cells := 0, slots := 0, locals := 175 }
theorem d_Law_ahead_0 : decode b_Law_ahead 0 = .ok (.aload_n 0, 1) := by decide +kernel
theorem d_Law_ahead_1 : decode b_Law_ahead 1 = .ok (.iload_n 1, 1) := by decide +kernel
theorem d_Law_ahead_2 : decode b_Law_ahead 2 = .ok (.iload_n 2, 1) := by decide +kernel
theorem d_Law_ahead_3 : decode b_Law_ahead 3 = .ok (.invokevirtual 116, 3) := by decide +kernel
theorem d_Law_ahead_6 : decode b_Law_ahead 6 = .ok (.ireturn, 1) := by decide +kernel
theorem d_Law_ahead_7 : decode b_Law_ahead 7 = .ok (.astore_n 3, 1) := by decide +kernel
theorem d_Law_ahead_8 : decode b_Law_ahead 8 = .ok (.bipush (-102), 2) := by decide +kernel
theorem d_Law_ahead_10 : decode b_Law_ahead 10 = .ok (.ireturn, 1) := by decide +kernel
def F_Law_ahead (a0 : Int32) (a1 : Int32) (σ : zSt) : Option (Int32 × zSt) := F_Waves_ahead a0 a1 σ
set_option maxHeartbeats 4000000 in
set_option maxRecDepth 100000 in
theorem c_Law_ahead {l : Launch} {G : zLA} (hx : zxl G) {a0 : Int32} {a1 : Int32} {σ σ' : zSt} {r : Int32} (hf : F_Law_ahead a0 a1 σ = some (r, σ')) : zM l G y_Law_ahead (zwsW y_Law_ahead b_Law_ahead 4 (some .int) [(0, 6, 7, 43)]) rm_Law_ahead [.ref (zad G 4 70), .int a0, .int a1] σ (some (.int r)) σ' := by
  refine z_ofMW (own := "VillageWavesLaw") (lv := [(0, .ref (zad G 4 70)), (1, .int a0), (2, .int a1)]) (by decide +kernel) rfl rfl (Nat.le_of_ble_eq_true rfl) (fun p e s m args below meth c C T => ?_)
  rw [F_Law_ahead] at hf
  have h1 := hf
  refine z_aload_n C d_Law_ahead_0 0 rfl rfl ?_
  refine z_iload_n C d_Law_ahead_1 1 rfl rfl ?_
  refine z_iload_n C d_Law_ahead_2 2 rfl rfl ?_
  refine z_cVi C kl_Law_116 rfl (c_Waves_ahead hx h1) (zx4 hx 70 rfl) rfl rfl rfl (Nat.le_of_ble_eq_true rfl) ⟨(Nat.le_of_ble_eq_true rfl), (Nat.le_of_ble_eq_true rfl)⟩ ⟨(Nat.le_of_ble_eq_true rfl), (Nat.le_of_ble_eq_true rfl)⟩ d_Law_ahead_3 ?_
  exact z_iret C rfl (Nat.le_of_ble_eq_true rfl) (Nat.le_of_ble_eq_true rfl) d_Law_ahead_6
abbrev rm_Law_bestAuthor : Room := { frames := 8, cells := 0, slots := 0, locals := 179 }
theorem d_Law_bestAuthor_0 : decode b_Law_bestAuthor 0 = .ok (.aload_n 0, 1) := by decide +kernel
theorem d_Law_bestAuthor_1 : decode b_Law_bestAuthor 1 = .ok (.iload_n 1, 1) := by decide +kernel
theorem d_Law_bestAuthor_2 : decode b_Law_bestAuthor 2 = .ok (.invokevirtual 119, 3) := by decide +kernel
theorem d_Law_bestAuthor_5 : decode b_Law_bestAuthor 5 = .ok (.ireturn, 1) := by decide +kernel
theorem d_Law_bestAuthor_6 : decode b_Law_bestAuthor 6 = .ok (.astore_n 2, 1) := by decide +kernel
theorem d_Law_bestAuthor_7 : decode b_Law_bestAuthor 7 = .ok (.bipush (-102), 2) := by decide +kernel
theorem d_Law_bestAuthor_9 : decode b_Law_bestAuthor 9 = .ok (.ireturn, 1) := by decide +kernel
def F_Law_bestAuthor (a0 : Int32) (σ : zSt) : Option (Int32 × zSt) := F_Waves_bestAuthor a0 σ
set_option maxHeartbeats 4000000 in
set_option maxRecDepth 100000 in
theorem c_Law_bestAuthor {l : Launch} {G : zLA} (hx : zxl G) {a0 : Int32} {σ σ' : zSt} {r : Int32} (hf : F_Law_bestAuthor a0 σ = some (r, σ')) : zM l G y_Law_bestAuthor (zwsW y_Law_bestAuthor b_Law_bestAuthor 3 (some .int) [(0, 5, 6, 43)]) rm_Law_bestAuthor [.ref (zad G 4 70), .int a0] σ (some (.int r)) σ' := by
  refine z_ofMW (own := "VillageWavesLaw") (lv := [(0, .ref (zad G 4 70)), (1, .int a0)]) (by decide +kernel) rfl rfl (Nat.le_of_ble_eq_true rfl) (fun p e s m args below meth c C T => ?_)
  rw [F_Law_bestAuthor] at hf
  have h1 := hf
  refine z_aload_n C d_Law_bestAuthor_0 0 rfl rfl ?_
  refine z_iload_n C d_Law_bestAuthor_1 1 rfl rfl ?_
  refine z_cVi C kl_Law_119 rfl (c_Waves_bestAuthor hx h1) (zx4 hx 70 rfl) rfl rfl rfl (Nat.le_of_ble_eq_true rfl) ⟨(Nat.le_of_ble_eq_true rfl), (Nat.le_of_ble_eq_true rfl)⟩ ⟨(Nat.le_of_ble_eq_true rfl), (Nat.le_of_ble_eq_true rfl)⟩ d_Law_bestAuthor_2 ?_
  exact z_iret C rfl (Nat.le_of_ble_eq_true rfl) (Nat.le_of_ble_eq_true rfl) d_Law_bestAuthor_5
abbrev rm_Law_save : Room := { frames := 8, cells := 0, slots := 0, locals := 174 }
theorem d_Law_save_0 : decode b_Law_save 0 = .ok (.aload_n 0, 1) := by decide +kernel
theorem d_Law_save_1 : decode b_Law_save 1 = .ok (.iload_n 1, 1) := by decide +kernel
theorem d_Law_save_2 : decode b_Law_save 2 = .ok (.invokevirtual 122, 3) := by decide +kernel
theorem d_Law_save_5 : decode b_Law_save 5 = .ok (.iconst 0, 1) := by decide +kernel
theorem d_Law_save_6 : decode b_Law_save 6 = .ok (.ireturn, 1) := by decide +kernel
theorem d_Law_save_7 : decode b_Law_save 7 = .ok (.astore_n 2, 1) := by decide +kernel
theorem d_Law_save_8 : decode b_Law_save 8 = .ok (.bipush (-102), 2) := by decide +kernel
theorem d_Law_save_10 : decode b_Law_save 10 = .ok (.ireturn, 1) := by decide +kernel
def F_Law_save (a0 : Int32) (σ : zSt) : Option (Int32 × zSt) := (F_Waves_save a0 σ).bind fun z => some ((0 : Int32), z)
set_option maxHeartbeats 4000000 in
set_option maxRecDepth 100000 in
theorem c_Law_save {l : Launch} {G : zLA} (hx : zxl G) {a0 : Int32} {σ σ' : zSt} {r : Int32} (hf : F_Law_save a0 σ = some (r, σ')) : zM l G y_Law_save (zwsW y_Law_save b_Law_save 3 (some .int) [(0, 6, 7, 43)]) rm_Law_save [.ref (zad G 4 70), .int a0] σ (some (.int r)) σ' := by
  refine z_ofMW (own := "VillageWavesLaw") (lv := [(0, .ref (zad G 4 70)), (1, .int a0)]) (by decide +kernel) rfl rfl (Nat.le_of_ble_eq_true rfl) (fun p e s m args below meth c C T => ?_)
  rw [F_Law_save] at hf
  obtain ⟨z, h1, hf⟩ := bd_s hf
  cases hf
  refine z_aload_n C d_Law_save_0 0 rfl rfl ?_
  refine z_iload_n C d_Law_save_1 1 rfl rfl ?_
  refine z_cVv C kl_Law_122 rfl (c_Waves_save hx h1) (zx4 hx 70 rfl) rfl rfl rfl (Nat.le_of_ble_eq_true rfl) ⟨(Nat.le_of_ble_eq_true rfl), (Nat.le_of_ble_eq_true rfl)⟩ ⟨(Nat.le_of_ble_eq_true rfl), (Nat.le_of_ble_eq_true rfl)⟩ d_Law_save_2 ?_
  refine z_iconst C d_Law_save_5 zki_0 ?_
  exact z_iret C rfl (Nat.le_of_ble_eq_true rfl) (Nat.le_of_ble_eq_true rfl) d_Law_save_6
abbrev rm_Law_restore : Room := { frames := 8, cells := 0, slots := 0, locals := 174 }
theorem d_Law_restore_0 : decode b_Law_restore 0 = .ok (.aload_n 0, 1) := by decide +kernel
theorem d_Law_restore_1 : decode b_Law_restore 1 = .ok (.iload_n 1, 1) := by decide +kernel
theorem d_Law_restore_2 : decode b_Law_restore 2 = .ok (.invokevirtual 125, 3) := by decide +kernel
theorem d_Law_restore_5 : decode b_Law_restore 5 = .ok (.iconst 0, 1) := by decide +kernel
theorem d_Law_restore_6 : decode b_Law_restore 6 = .ok (.ireturn, 1) := by decide +kernel
theorem d_Law_restore_7 : decode b_Law_restore 7 = .ok (.astore_n 2, 1) := by decide +kernel
theorem d_Law_restore_8 : decode b_Law_restore 8 = .ok (.bipush (-102), 2) := by decide +kernel
theorem d_Law_restore_10 : decode b_Law_restore 10 = .ok (.ireturn, 1) := by decide +kernel
theorem d_Law_restore_11 : decode b_Law_restore 11 = .ok (.astore_n 2, 1) := by decide +kernel
theorem d_Law_restore_12 : decode b_Law_restore 12 = .ok (.bipush (-103), 2) := by decide +kernel
theorem d_Law_restore_14 : decode b_Law_restore 14 = .ok (.ireturn, 1) := by decide +kernel
def F_Law_restore (a0 : Int32) (σ : zSt) : Option (Int32 × zSt) := (F_Waves_restore a0 σ).bind fun z => some ((0 : Int32), z)
set_option maxHeartbeats 4000000 in
set_option maxRecDepth 100000 in
theorem c_Law_restore {l : Launch} {G : zLA} (hx : zxl G) {a0 : Int32} {σ σ' : zSt} {r : Int32} (hf : F_Law_restore a0 σ = some (r, σ')) : zM l G y_Law_restore (zwsW y_Law_restore b_Law_restore 3 (some .int) [(0, 6, 7, 43), (0, 6, 11, 45)]) rm_Law_restore [.ref (zad G 4 70), .int a0] σ (some (.int r)) σ' := by
  refine z_ofMW (own := "VillageWavesLaw") (lv := [(0, .ref (zad G 4 70)), (1, .int a0)]) (by decide +kernel) rfl rfl (Nat.le_of_ble_eq_true rfl) (fun p e s m args below meth c C T => ?_)
  rw [F_Law_restore] at hf
  obtain ⟨z, h1, hf⟩ := bd_s hf
  cases hf
  refine z_aload_n C d_Law_restore_0 0 rfl rfl ?_
  refine z_iload_n C d_Law_restore_1 1 rfl rfl ?_
  refine z_cVv C kl_Law_125 rfl (c_Waves_restore hx h1) (zx4 hx 70 rfl) rfl rfl rfl (Nat.le_of_ble_eq_true rfl) ⟨(Nat.le_of_ble_eq_true rfl), (Nat.le_of_ble_eq_true rfl)⟩ ⟨(Nat.le_of_ble_eq_true rfl), (Nat.le_of_ble_eq_true rfl)⟩ d_Law_restore_2 ?_
  refine z_iconst C d_Law_restore_5 zki_0 ?_
  exact z_iret C rfl (Nat.le_of_ble_eq_true rfl) (Nat.le_of_ble_eq_true rfl) d_Law_restore_6
abbrev rm_Law_runX : Room := { frames := 8, cells := 1, slots := 6, locals := 164 }
def F_Law_runX (a0 : Int32) (σ : zSt) : Option (Int32 × zSt) :=
  (F_Waves_runX a0 σ).bind fun q => match q with | .inr E => (if E = "java/lang/IllegalArgumentException" then some ((-102 : Int32), σ) else none) | .inl z => some z
set_option maxHeartbeats 4000000 in
set_option maxRecDepth 100000 in
theorem c_Law_runX {l : Launch} {G : zLA} (hx : zxl G) (hst : l.stackTraces = false) {a0 : Int32} {σ σ' : zSt} {r : Int32} (hf : F_Law_runX a0 σ = some (r, σ')) : zM l G y_Law_run (zwsW y_Law_run b_Law_run 3 (some .int) [(0, 5, 6, 43)]) rm_Law_runX [.ref (zad G 4 70), .int a0] σ (some (.int r)) σ' := by
  refine z_ofMW (own := "VillageWavesLaw") (lv := [(0, .ref (zad G 4 70)), (1, .int a0)]) (by decide +kernel) rfl rfl (Nat.le_of_ble_eq_true rfl) (fun p e s m args below meth c C T => ?_)
  rw [F_Law_runX] at hf
  obtain ⟨q, h1, hf⟩ := bd_s hf
  refine z_aload_n C d_Law_run_0 0 rfl rfl ?_
  refine z_iload_n C d_Law_run_1 1 rfl rfl ?_
  refine z_callXV C kl_Law_92 rfl (c_Waves_runX hst hx h1) (zx4 hx 70 rfl) rfl rfl rfl (Nat.le_of_ble_eq_true rfl) ⟨(Nat.le_of_ble_eq_true rfl), (Nat.le_of_ble_eq_true rfl)⟩ ⟨(Nat.le_of_ble_eq_true rfl), (Nat.le_of_ble_eq_true rfl)⟩ d_Law_run_2 (fun E hE => ?_) (fun ov σ1 hE => ?_)
  · cases q with
    | inl z => cases hE
    | inr E0 =>
      cases hE
      by_cases e0 : E = "java/lang/IllegalArgumentException"
      · subst e0
        have hf := iff_t hf rfl
        cases hf
        refine z_catch C [] ⟨0, 5, 6, 43⟩ [] (T.trans rfl) (fun z hz => absurd hz List.not_mem_nil) (by decide +kernel) (by decide) zq412 zp423 (fun q => ?_)
        refine z_astore_n C d_Law_run_6 rfl (by decide) ?_
        refine z_bipush C d_Law_run_7 zkb_m102 ?_
        exact z_iret C rfl (Nat.le_of_ble_eq_true rfl) (Nat.le_of_ble_eq_true rfl) d_Law_run_9
      · have hf := iff_f hf e0
        cases hf
  · cases q with
    | inr E0 => cases hE
    | inl z =>
      cases hE
      cases hf
      exact z_iret C rfl (Nat.le_of_ble_eq_true rfl) (Nat.le_of_ble_eq_true rfl) d_Law_run_5
