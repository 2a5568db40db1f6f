set_option maxRecDepth 100000 in
theorem zq49 : (Cond.methodLink "VillageWavesLaw" 197 ⟨"VillageWavesLaw", "<init>", "()V"⟩ : Cond) ∈ zGW := zgw 49 (by rfl) (by rfl)
set_option maxRecDepth 100000 in
theorem zq50 : (Cond.instanceMethod ⟨"VillageWavesLaw", "<init>", "()V"⟩ : Cond) ∈ zGW := zgw 50 (by rfl) (by rfl)
set_option maxRecDepth 100000 in
theorem zq51 : (Cond.code ⟨"VillageWavesLaw", "<init>", "()V"⟩ method_1_code 1 none : Cond) ∈ zGW := zgw 51 (by rfl) (by rfl)
set_option maxRecDepth 100000 in
theorem zq388 : (Cond.methodLink "VillageWavesLaw" 198 ⟨"VillageWavesLaw", "holds", "([I)Z"⟩ : Cond) ∈ zGW := zgw 388 (by rfl) (by rfl)
set_option maxRecDepth 100000 in
theorem zq390 : (Cond.instanceMethod ⟨"VillageWavesLaw", "holds", "([I)Z"⟩ : Cond) ∈ zGW := zgw 390 (by rfl) (by rfl)
set_option maxRecDepth 100000 in
theorem zq0 : (Cond.selects "VillageWavesLaw" ⟨"VillageWavesLaw", "holds", "([I)Z"⟩ ⟨"VillageWavesLaw", "holds", "([I)Z"⟩ : Cond) ∈ zGW := zgw 0 (by rfl) (by rfl)
set_option maxRecDepth 100000 in
theorem zq391 : (Cond.code ⟨"VillageWavesLaw", "holds", "([I)Z"⟩ method_37_code 3 (some .boolean) : Cond) ∈ zGW := zgw 391 (by rfl) (by rfl)
set_option maxRecDepth 100000 in
theorem zq47 : (Cond.classLink "VillageWavesLaw" 11 "VillageWavesLaw" : Cond) ∈ zGW := zgw 47 (by rfl) (by rfl)
abbrev y_Law_law : MethodName := ⟨"VillageWavesLaw", "law", "([I)Z"⟩
theorem d_law_0 : decode code 0 = .ok (.new 11, 3) := by decide +kernel
theorem d_law_3 : decode code 3 = .ok (.dup, 1) := by decide +kernel
theorem d_law_4 : decode code 4 = .ok (.invokespecial 197, 3) := by decide +kernel
theorem d_law_7 : decode code 7 = .ok (.aload_n 0, 1) := by decide +kernel
theorem d_law_8 : decode code 8 = .ok (.invokevirtual 198, 3) := by decide +kernel
theorem d_law_11 : decode code 11 = .ok (.ireturn, 1) := by decide +kernel
theorem nl_Law_197 : nLI "VillageWavesLaw" 197 y_Law_init b_Law_init 1 0 := ⟨zq49, zq50, zq27, zq51, rfl, ⟨by decide, by decide, by decide +kernel⟩⟩
theorem kl_Law_198 : zLV "VillageWavesLaw" 198 "VillageWavesLaw" y_Law_holds b_Law_holds 3 (some .boolean) 1 := ⟨zq388, zq390, zq0, zq27, zq391, rfl, ⟨by decide, by decide, by decide +kernel⟩⟩
/-- all cells, in the order of their making -/
def nLs : List (Nat × Nat) := (4, 80) :: ((4, 70) :: ((((nvl 0 ++ nvl 1) ++ nvl 2) ++ nvl 3) ++ [(4, 71), (4, 72), (4, 73), (4, 74)]))
def nad (q0 q1 : Nat) (qW : Nat → Nat → Nat) : Nat → Nat → Nat := fun g o => match g with
  | 0 => qW 0 o
  | 1 => qW 1 o
  | 2 => qW 2 o
  | 3 => qW 3 o
  | _ => match o with
    | 80 => q0
    | 70 => q1
    | 71 => qW 4 0
    | 72 => qW 4 1
    | 73 => qW 4 2
    | 74 => qW 4 3
    | _ => 0
def nGf (G : zLA) (q0 q1 : Nat) (qW : Nat → Nat → Nat) : zLA := (G.1, G.2.1, nad q0 q1 qW, G.2.2.2.1, G.2.2.2.2.1, nLs, G.2.2.2.2.2.2)
/-- the numbers at the start -/
def nS (σ0 σ1 σ2 σ3 : zSt) : zSt := (fun g o => match g with
  | 0 => σ0.1 0 o
  | 1 => σ1.1 1 o
  | 2 => σ2.1 2 o
  | 3 => σ3.1 3 o
  | _ => match o with
    | 71 => (fun i => match i with
      | 2 => -1
      | _ => 0)
    | _ => (fun _ => 0), fun _ => 0, fun _ => 0)
theorem nLs_ok : zLok nLs := ⟨by decide +kernel, by decide +kernel⟩
theorem nLs_v : ∀ v, v < 4 → ∀ o, o < 62 → (v, o) ∈ nLs := by decide +kernel
theorem nLs_x : ∀ o, 70 ≤ o → o ≤ 74 → (4, o) ∈ nLs := by
  intro o h1 h2
  rcases (show o = 70 ∨ o = 71 ∨ o = 72 ∨ o = 73 ∨ o = 74 by omega) with rfl | rfl | rfl | rfl | rfl <;> decide +kernel
theorem nLs_m : (4, 80) ∈ nLs := by decide +kernel
/-- the world at the start is the law's -/
theorem n_B {σ0 σ1 σ2 σ3 : zSt} {A : zAb} {c : Int32} (h0 : zC σ0 0 (aNil A) 0 0 c 0) : zB (zst (nS σ0 σ1 σ2 σ3) 4 80 1 1) (aNil A) 0 0 :=
  ⟨⟨c, zC_fr h0 (fun o i => by rw [zst_at, if_neg (by omega)]; rfl)⟩, rfl, rfl, rfl, rfl, rfl, ⟨by rw [zst_at, if_pos ⟨rfl, rfl, rfl⟩]; decide, by rw [zst_at, if_neg (by omega)]; rfl⟩⟩
set_option maxRecDepth 100000 in
set_option maxHeartbeats 4000000 in
theorem n_world (G : zLA) (σ0 σ1 σ2 σ3 : zSt) (q0 : Nat) (q : Nat × (Nat → Nat → Nat)) : [] ++ nw_Law G q0 σ0 σ1 σ2 σ3 q = zwd (nGf G q0 q.1 q.2) (nS σ0 σ1 σ2 σ3) := by
  have e : ∀ (L1 L2 : List (Nat × Nat)) (f : Nat × Nat → Nat × va_E), (L1 ++ L2).map f = L1.map f ++ L2.map f := fun L1 L2 f => List.map_append
  have v0 : (nvl 0).map (fun x => (zad (nGf G q0 q.1 q.2) x.1 x.2, zct (nGf G q0 q.1 q.2) (nS σ0 σ1 σ2 σ3) x.1 x.2)) = zwd (nG G 0 (q.2 0)) σ0 := rfl
  have v1 : (nvl 1).map (fun x => (zad (nGf G q0 q.1 q.2) x.1 x.2, zct (nGf G q0 q.1 q.2) (nS σ0 σ1 σ2 σ3) x.1 x.2)) = zwd (nG G 1 (q.2 1)) σ1 := rfl
  have v2 : (nvl 2).map (fun x => (zad (nGf G q0 q.1 q.2) x.1 x.2, zct (nGf G q0 q.1 q.2) (nS σ0 σ1 σ2 σ3) x.1 x.2)) = zwd (nG G 2 (q.2 2)) σ2 := rfl
  have v3 : (nvl 3).map (fun x => (zad (nGf G q0 q.1 q.2) x.1 x.2, zct (nGf G q0 q.1 q.2) (nS σ0 σ1 σ2 σ3) x.1 x.2)) = zwd (nG G 3 (q.2 3)) σ3 := rfl
  show _ = nLs.map _
  unfold nLs
  rw [List.map_cons, List.map_cons, e, e, e, e, v0, v1, v2, v3]
  rfl
/-- the law's own end -/
theorem z_lend {l : Launch} {G : zLA} {p : Program} {e : Env} {s0 s : State} {m : MethodId} {b : Nat} {below : List Frame} {meth : Method} {c : Code} {cells slots pc : Nat} {lv : List (Nat × Value)} {σ : zSt} (h0 : s = s0.setDrawn s0.drawn ∧ ∀ q, zA G s.heap.size q → s.heap.size ≤ q) (C : zCx G p s m #[Value.ref b] meth c "VillageWavesLaw" code 1 ret) (hc : cells ≤ 600086) (hs : slots ≤ 7301442) (d : decode code pc = .ok (.ireturn, 1)) : zWV G p l e room_1 s m #[Value.ref b] below meth c 1 cells slots (lw_Z below #[Value.ref b] s0) pc lv [.int 1] σ := by
  obtain ⟨rfl, hA⟩ := h0
  intro ls H locs hl hP hD hS
  refine va_forget (fun q hq => hA _ (hS.2.2 q hq)) ?_
  refine W.widen hc hs ?_
  exact lw_ret (Drawn.sameBut.refl s0.drawn lw_cs) C.x C.b C.r C.k d
set_option maxRecDepth 100000 in
set_option maxHeartbeats 4000000 in
/-- THE LAW, from its entry -/
theorem whole_start {p : Program} {e : Env} {s : State} {m : MethodId} {below : List Frame} {meth : Method} {c : Code} (l : Launch) (hflags : l.flags = flags0) {b L : Nat} {xs : Nat → Int32} (hL : L ≤ 260) (C0 : lw_At p s m meth c b L xs) : W p l e room_1 s m #[Value.ref b] below meth c s.heap [] 0 0 (lw_Z below #[Value.ref b] s) (entryFrame m ([Value.ref b] : List Value).toArray 1) := by
  obtain ⟨hx, hb, hr, hml, hown, hts, hX, hbl, hlocks, hgv⟩ := id C0
  have hs := flat_of_before _ hgv
  have hg : ∀ w ∈ zGW, w.before #[Value.ref b] s = true := fun w hw => hts w (List.mem_filter.mp hw).1
  have hn : ∀ w ∈ zNW, va_Nw w s := fun w hw => va_Nw.of (zNW_on hw) (hts w (List.mem_filter.mp hw).1)
  obtain ⟨sa, hsb, hSF⟩ := n_SF hX hbl hs hts
  obtain ⟨dC, dI, aC, hK⟩ := n_K hg
  have C : nCx (dC, dI, (fun _ _ => 0), aC, sa, [], L, xs) p s m #[Value.ref b] meth c "VillageWavesLaw" code 1 ret (fun q => s.heap.size ≤ q) := ⟨hx, hb, hml, hr, hlocks, hown, hg, hn, hK, hSF _ _ rfl rfl rfl (fun a h => Nat.not_le.mpr h), fun q h => h⟩
  obtain ⟨σ0, hF0, -, hz0⟩ := x_clear (v := 0) (σ := nσ0) (fun _ _ _ => 0)
  obtain ⟨σ1, hF1, -, -⟩ := x_clear (v := 1) (σ := nσ0) (fun _ _ _ => 0)
  obtain ⟨σ2, hF2, -, -⟩ := x_clear (v := 2) (σ := nσ0) (fun _ _ _ => 0)
  obtain ⟨σ3, hF3, -, -⟩ := x_clear (v := 3) (σ := nσ0) (fun _ _ _ => 0)
  have hst : l.stackTraces = false := by
    show (!l.flags.contains noTraceFlag) = false
    rw [hflags]
    decide +kernel
  have hl := lv_entry ([.ref b]) (n := 1) (Nat.le_of_ble_eq_true rfl)
  rw [lg_entry_eq]
  generalize (lg_sl ([.ref b]) ++ List.replicate (1 - (lg_sl ([.ref b])).length) Slot.unset).toArray = ls at hl ⊢
  have hl : lv_has ls 1 [(0, .ref b)] := hl
  have hP : va_P (dC, dI) zcl [] s.heap := fun k q h => by simp at h
  have hD : va_D (fun q : Nat => s.heap.size ≤ q) [] := ⟨fun i j p q h => by simp at h, fun k q h => by simp at h⟩
  have go : nWV (dC, dI, (fun _ _ => 0), aC, sa, [], L, xs) p l e room_1 s m #[Value.ref b] below meth c 1 0 0 (lw_Z below #[Value.ref b] s) (fun q => s.heap.size ≤ q) 0 [(0, .ref b)] [] [] := by
    refine n_new (ci := 9) (fs := [.null, .null, .int 0]) C zin_9 zy9 rfl zq47 zq48 zq27 nf_9 (Nat.le_of_ble_eq_true rfl) (Nat.le_of_ble_eq_true rfl) d_law_0 (fun q0 => ?_)
    refine n_dup C d_law_3 rfl ?_
    refine n_callI (as := []) (rest := [.ref q0]) C nl_Law_197 (c_Law_init l _ q0 hF0 hF1 hF2 hF3) rfl rfl (Nat.le_of_ble_eq_true rfl) ⟨(Nat.le_of_ble_eq_true rfl), (Nat.le_of_ble_eq_true rfl)⟩ ⟨(Nat.le_of_ble_eq_true rfl), (Nat.le_of_ble_eq_true rfl)⟩ d_law_4 (fun qL => ?_)
    intro ls H locs hl hP hD hS
    have hP : va_P (dC, dI) zcl ([] ++ nw_Law (dC, dI, (fun _ _ => 0), aC, sa, [], L, xs) q0 σ0 σ1 σ2 σ3 qL) H := hP
    have hD : va_D (fun q => s.heap.size ≤ q) ([] ++ nw_Law (dC, dI, (fun _ _ => 0), aC, sa, [], L, xs) q0 σ0 σ1 σ2 σ3 qL) := hD
    rw [n_world] at hP hD
    have hl : lv_has ls 1 [(0, .ref (zsa (nGf (dC, dI, (fun _ _ => 0), aC, sa, [], L, xs) q0 qL.1 qL.2) 3))] := by
      show lv_has ls 1 [(0, .ref (sa 3))]
      rw [hsb]; exact hl
    have hq : (.ref q0 : Value) = .ref (zad (nGf (dC, dI, (fun _ _ => 0), aC, sa, [], L, xs) q0 qL.1 qL.2) 4 80) := rfl
    rw [hq]
    generalize hGe : nGf (dC, dI, (fun _ _ => 0), aC, sa, [], L, xs) q0 qL.1 qL.2 = G at hP hD hl ⊢
    have hZA : ∀ q, zA G s.heap.size q → s.heap.size ≤ q := fun q h => by
      rcases h with ⟨x, hx, rfl⟩ | h
      · obtain ⟨k, hk⟩ := List.getElem?_of_mem hx
        exact hD.2 k _ (zwd_at G _ hk)
      · exact h
    have hnA : ∀ a : Nat, a < s.heap.size → ¬ zA G s.heap.size a := fun a h h2 => absurd (hZA a h2) (Nat.not_le.mpr h)
    have CZ : zCx G p s m #[Value.ref b] meth c "VillageWavesLaw" code 1 ret := ⟨hx, hb, hml, hr, hlocks, hown, hg, hn, by rw [← hGe]; exact hK, hSF G _ (by rw [← hGe]; rfl) (by rw [← hGe]; rfl) (by rw [← hGe]; rfl) hnA, by rw [← hGe]; exact nLs_ok⟩
    have hxl : zxl G := by rw [← hGe]; exact ⟨nLs_x, nLs_v⟩
    have hmll : zml G := by rw [← hGe]; exact nLs_m
    have hLn : zLn G ≤ 260 := by rw [← hGe]; exact hL
    obtain ⟨⟨r, σ'⟩, hF, hr1⟩ := lw_holds (n_B (σ1 := σ1) (σ2 := σ2) (σ3 := σ3) hz0) G hLn
    have hr1 : r = 1 := hr1
    subst hr1
    have hP' : va_P (zD G) zcl (zwd G (nS σ0 σ1 σ2 σ3)) H := by rw [← hGe] at hP ⊢; exact hP
    have fin : zWV G p l e room_1 s m #[Value.ref b] below meth c 1 (0 + 1 + (rm_Law_init).cells) (0 + 3 + (rm_Law_init).slots) (lw_Z below #[Value.ref b] s) 7 [(0, .ref (zsa G 3))] [.ref (zad G 4 80)] (nS σ0 σ1 σ2 σ3) := by
      refine z_aload_n CZ d_law_7 0 rfl rfl ?_
      refine z_cVi (as := [.ref (zsa G 3)]) (rest := []) (g := 4) (o := 80) CZ kl_Law_198 (ci := 9) rfl (c_Law_holds hst hxl hmll hF) hmll rfl rfl rfl (Nat.le_of_ble_eq_true rfl) ⟨(Nat.le_of_ble_eq_true rfl), (Nat.le_of_ble_eq_true rfl)⟩ ⟨(Nat.le_of_ble_eq_true rfl), (Nat.le_of_ble_eq_true rfl)⟩ d_law_8 ?_
      exact z_lend ⟨rfl, hZA⟩ CZ (Nat.le_of_ble_eq_true rfl) (Nat.le_of_ble_eq_true rfl) d_law_11
    exact fin ls H locs hl hP' (zD_A hD) ⟨hS.1, fun q h1 h2 => hS.2.1 q h1 (Nat.not_le.mpr h1), fun l hl => Or.inr (hS.2.2 l hl)⟩
  exact go ls s.heap [] hl hP hD va_S.rf
