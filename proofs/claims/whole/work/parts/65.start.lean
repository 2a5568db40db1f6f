theorem zq120 : (Cond.methodLink "VillageWavesLaw" 103 ⟨"VillageWaves", "<init>", "()V"⟩ : Cond) ∈ zGW := zgw 120 (by decide +kernel) (by decide +kernel)
theorem zq121 : (Cond.instanceMethod ⟨"VillageWaves", "<init>", "()V"⟩ : Cond) ∈ zGW := zgw 121 (by decide +kernel) (by decide +kernel)
theorem zq122 : (Cond.code ⟨"VillageWaves", "<init>", "()V"⟩ prog_1_method_1_code 1 none : Cond) ∈ zGW := zgw 122 (by decide +kernel) (by decide +kernel)
theorem zq1259 : (Cond.methodLink "VillageWavesLaw" 106 ⟨"VillageWavesModel", "<init>", "()V"⟩ : Cond) ∈ zGW := zgw 1259 (by decide +kernel) (by decide +kernel)
theorem zq1260 : (Cond.instanceMethod ⟨"VillageWavesModel", "<init>", "()V"⟩ : Cond) ∈ zGW := zgw 1260 (by decide +kernel) (by decide +kernel)
theorem zq1261 : (Cond.code ⟨"VillageWavesModel", "<init>", "()V"⟩ prog_11_method_1_code 1 none : Cond) ∈ zGW := zgw 1261 (by decide +kernel) (by decide +kernel)
theorem zq118 : (Cond.classLink "VillageWavesLaw" 8 "VillageWaves" : Cond) ∈ zGW := zgw 118 (by decide +kernel) (by decide +kernel)
theorem zq1257 : (Cond.classLink "VillageWavesLaw" 104 "VillageWavesModel" : Cond) ∈ zGW := zgw 1257 (by decide +kernel) (by decide +kernel)
theorem d_law_0 : decode code 0 = .ok (.new 8, 3) := by decide +kernel
theorem d_law_3 : decode code 3 = .ok (.dup, 1) := by decide +kernel
theorem d_law_4 : decode code 4 = .ok (.invokespecial 103, 3) := by decide +kernel
theorem d_law_7 : decode code 7 = .ok (.astore_n 1, 1) := by decide +kernel
theorem d_law_8 : decode code 8 = .ok (.new 104, 3) := by decide +kernel
theorem d_law_11 : decode code 11 = .ok (.dup, 1) := by decide +kernel
theorem d_law_12 : decode code 12 = .ok (.invokespecial 106, 3) := by decide +kernel
theorem d_law_15 : decode code 15 = .ok (.astore_n 2, 1) := by decide +kernel
theorem d_law_16 : decode code 16 = .ok (.iconst 1, 1) := by decide +kernel
theorem d_law_17 : decode code 17 = .ok (.newarray .long, 2) := by decide +kernel
theorem d_law_19 : decode code 19 = .ok (.astore_n 3, 1) := by decide +kernel
theorem d_law_20 : decode code 20 = .ok (.iconst 1, 1) := by decide +kernel
theorem d_law_21 : decode code 21 = .ok (.newarray .double, 2) := by decide +kernel
theorem d_law_23 : decode code 23 = .ok (.astore 4, 2) := by decide +kernel
theorem d_law_25 : decode code 25 = .ok (.iconst 0, 1) := by decide +kernel
theorem d_law_26 : decode code 26 = .ok (.istore 5, 2) := by decide +kernel
theorem nl_Law_103 : nLI "VillageWavesLaw" 103 y_Waves_init b_Waves_init 1 0 := ⟨zq120, zq121, zq94, zq122, rfl, ⟨by decide, by decide, by decide +kernel⟩⟩
theorem nl_Law_106 : nLI "VillageWavesLaw" 106 y_Model_init b_Model_init 1 0 := ⟨zq1259, zq1260, zq105, zq1261, rfl, ⟨by decide, by decide, by decide +kernel⟩⟩
theorem nz_l : ∀ cA : ClassId, vp_cell cA (1, .inr (.inl (fun k => if k = 0 then 0 else 0))) = arrV cA 1 (fun _ => defaultValue .long) := by
  intro cA
  have h : (fun k : Nat => if k = 0 then (0 : Int64) else 0) = fun _ => 0 := by funext k; exact ite_self _
  show vp_cell cA (1, .inr (.inl (fun k : Nat => if k = 0 then (0 : Int64) else 0))) = _
  rw [h]; rfl
theorem nz_d : ∀ cA : ClassId, vp_cell cA (1, .inr (.inr (.inr (.inl (fun k => if k = 0 then 0 else 0))))) = arrV cA 1 (fun _ => defaultValue .double) := by
  intro cA
  have h : (fun k : Nat => if k = 0 then (0 : UInt64) else 0) = fun _ => 0 := by funext k; exact ite_self _
  show vp_cell cA (1, .inr (.inr (.inr (.inl (fun k : Nat => if k = 0 then (0 : UInt64) else 0))))) = _
  rw [h]; rfl
/-- all cells, in the order of their making -/
def nLs : List (Nat × Nat) := ((((4, 70) :: ((((nvl 0 ++ nvl 1) ++ nvl 2) ++ nvl 3) ++ [(4, 71), (4, 72), (4, 73), (4, 74)])) ++ nml) ++ [(4, 95)]) ++ [(4, 96)]
def nad (q0 : Nat) (qW : Nat → Nat → Nat) (q8 : Nat) (qM : Nat → Nat) (q17 q21 : Nat) : Nat → Nat → Nat := fun g o => match g with
  | 0 => qW 0 o
  | 1 => qW 1 o
  | 2 => qW 2 o
  | 3 => qW 3 o
  | _ => match o with
    | 70 => q0
    | 71 => qW 4 0
    | 72 => qW 4 1
    | 73 => qW 4 2
    | 74 => qW 4 3
    | 95 => q17
    | 96 => q21
    | o => nAM q8 qM o
def nGf (G : zLA) (q0 : Nat) (qW : Nat → Nat → Nat) (q8 : Nat) (qM : Nat → Nat) (q17 q21 : Nat) : zLA := (G.1, G.2.1, nad q0 qW q8 qM q17 q21, G.2.2.2.1, G.2.2.2.2.1, nLs)
/-- the numbers at the start -/
def nS (σ0 σ1 σ2 σ3 σM : zSt) : zSt := (fun g o => match g with
  | 0 => σ0.1 0 o
  | 1 => σ1.1 1 o
  | 2 => σ2.1 2 o
  | 3 => σ3.1 3 o
  | _ => match o with
    | 80 => σM.1 4 80
    | 81 => σM.1 4 81
    | 82 => σM.1 4 82
    | 83 => σM.1 4 83
    | 84 => σM.1 4 84
    | 85 => σM.1 4 85
    | 86 => σM.1 4 86
    | 87 => σM.1 4 87
    | 88 => σM.1 4 88
    | 89 => σM.1 4 89
    | 90 => σM.1 4 90
    | 71 => (fun i => match i with
      | 2 => -1
      | _ => 0)
    | _ => (fun _ => 0), fun o => match o with
  | 80 => σM.2.1 80
  | _ => 0, fun _ => 0)
theorem nLs_ok : zLok nLs := ⟨by decide +kernel, by decide +kernel⟩
theorem nLs_v : ∀ v, v < 4 → ∀ o, o < 62 → (v, o) ∈ nLs := by decide +kernel
theorem nLs_x : ∀ o, 70 ≤ o → o ≤ 74 → (4, o) ∈ nLs := by
  intro o h1 h2
  rcases (show o = 70 ∨ o = 71 ∨ o = 72 ∨ o = 73 ∨ o = 74 by omega) with rfl | rfl | rfl | rfl | rfl <;> decide +kernel
theorem nLs_m : ∀ o, 80 ≤ o → o ≤ 90 → (4, o) ∈ nLs := by
  intro o h1 h2
  rcases (show o = 80 ∨ o = 81 ∨ o = 82 ∨ o = 83 ∨ o = 84 ∨ o = 85 ∨ o = 86 ∨ o = 87 ∨ o = 88 ∨ o = 89 ∨ o = 90 by omega) with rfl | rfl | rfl | rfl | rfl | rfl | rfl | rfl | rfl | rfl | rfl <;> decide +kernel
theorem nM_r : zMr nσM (fun _ _ _ => 0) := ⟨⟨fun _ _ => rfl, fun _ _ _ _ => rfl, fun _ _ _ _ => rfl, fun _ _ _ _ _ _ => rfl, fun _ _ _ _ => rfl⟩, rfl, rfl, rfl⟩
theorem nM_k : zKn nσM := by
  intro i hi
  rcases (show i = 0 ∨ i = 1 ∨ i = 2 ∨ i = 3 ∨ i = 4 by omega) with rfl | rfl | rfl | rfl | rfl <;> exact ⟨rfl, rfl, rfl⟩
theorem n_J {σ0 σ1 σ2 σ3 σM : zSt} {A : zAb} {c : Int32} (h0 : zC σ0 0 A 0 0 c 0) (hM : zMr σM A) (hfr : ∀ g o i, ¬ (g = 4 ∧ o = 81) → σM.1 g o i = nσM.1 g o i) : zJ (nS σ0 σ1 σ2 σ3 σM) 0 := by
  refine ⟨A, 0, 0, c, 0, Nat.le_refl 0, zC_fr h0 (fun o i => rfl), hM, ?_, ⟨⟨0, by decide, rfl, ?_, fun i hi => absurd hi (Nat.not_lt_zero i)⟩, ?_, ?_⟩, ?_⟩
  · intro s hs
    have h1 : (nS σ0 σ1 σ2 σ3 σM).1 4 85 s = 0 := (hfr 4 85 s (by decide)).trans rfl
    have h2 : (nS σ0 σ1 σ2 σ3 σM).1 4 70 4 = 0 := rfl
    refine ⟨⟨fun _ => h1, fun _ => ?_⟩, fun h => absurd h1 h⟩
    rw [h2]
    rcases (show s = 0 ∨ s = 1 by omega) with rfl | rfl <;> decide
  · exact (hfr 4 80 10 (by decide)).trans rfl
  · exact (hfr 4 80 16 (by decide)).trans rfl
  · exact (hfr 4 80 17 (by decide)).trans rfl
  · intro i hi
    exact ⟨(hfr 4 86 i (by decide)).trans (nM_k i hi).1, (hfr 4 87 i (by decide)).trans (nM_k i hi).2.1, (hfr 4 88 i (by decide)).trans (nM_k i hi).2.2⟩
/-- the made cells are the world -/
def nW (G : zLA) (σ0 σ1 σ2 σ3 σM : zSt) (q0 : Nat) (qW : Nat → Nat → Nat) (q8 : Nat) (qM : Nat → Nat) (q17 q21 : Nat) : va_W :=
  ((([] ++ nw_Waves G q0 σ0 σ1 σ2 σ3 qW) ++ nw_Model G q8 σM qM) ++ [(q17, .inl (zaC G 2, 1, .inr (.inl (fun k => if k = 0 then 0 else 0))))]) ++ [(q21, .inl (zaC G 3, 1, .inr (.inr (.inr (.inl (fun k => if k = 0 then 0 else 0))))))]
set_option maxRecDepth 100000 in
set_option maxHeartbeats 4000000 in
theorem n_world (G : zLA) (σ0 σ1 σ2 σ3 σM : zSt) (q0 : Nat) (qW : Nat → Nat → Nat) (q8 : Nat) (qM : Nat → Nat) (q17 q21 : Nat) : nW G σ0 σ1 σ2 σ3 σM q0 qW q8 qM q17 q21 = zwd (nGf G q0 qW q8 qM q17 q21) (nS σ0 σ1 σ2 σ3 σM) := by
  have e : ∀ (L1 L2 : List (Nat × Nat)) (f : Nat × Nat → Nat × va_E), (L1 ++ L2).map f = L1.map f ++ L2.map f := fun L1 L2 f => List.map_append
  have v0 : (nvl 0).map (fun q => (zad (nGf G q0 qW q8 qM q17 q21) q.1 q.2, zct (nGf G q0 qW q8 qM q17 q21) (nS σ0 σ1 σ2 σ3 σM) q.1 q.2)) = zwd (nG G 0 (qW 0)) σ0 := rfl
  have v1 : (nvl 1).map (fun q => (zad (nGf G q0 qW q8 qM q17 q21) q.1 q.2, zct (nGf G q0 qW q8 qM q17 q21) (nS σ0 σ1 σ2 σ3 σM) q.1 q.2)) = zwd (nG G 1 (qW 1)) σ1 := rfl
  have v2 : (nvl 2).map (fun q => (zad (nGf G q0 qW q8 qM q17 q21) q.1 q.2, zct (nGf G q0 qW q8 qM q17 q21) (nS σ0 σ1 σ2 σ3 σM) q.1 q.2)) = zwd (nG G 2 (qW 2)) σ2 := rfl
  have v3 : (nvl 3).map (fun q => (zad (nGf G q0 qW q8 qM q17 q21) q.1 q.2, zct (nGf G q0 qW q8 qM q17 q21) (nS σ0 σ1 σ2 σ3 σM) q.1 q.2)) = zwd (nG G 3 (qW 3)) σ3 := rfl
  have vm : nml.map (fun q => (zad (nGf G q0 qW q8 qM q17 q21) q.1 q.2, zct (nGf G q0 qW q8 qM q17 q21) (nS σ0 σ1 σ2 σ3 σM) q.1 q.2)) = zwd (nGM G (nAM q8 qM)) σM := rfl
  show _ = nLs.map _
  unfold nLs
  rw [e, e, e, List.map_cons, e, e, e, e, v0, v1, v2, v3, vm]
  rfl
set_option maxRecDepth 100000 in
set_option maxHeartbeats 4000000 in
/-- THE LAW, from its entry -/
theorem whole_start {p : Program} {e : Env} {s : State} {m : MethodId} {below : List Frame} {meth : Method} {c : Code} (l : Launch) (hflags : l.flags = flags0) {b L : Nat} {xs : Nat → Int32} (hL : L ≤ 3072) (C0 : lw_At p s m meth c b L xs) : W p l e room_1 s m #[Value.ref b] below meth c s.heap [] 0 0 (lw_Z below #[Value.ref b] s) (entryFrame m ([Value.ref b] : List Value).toArray 10) := by
  obtain ⟨hx, hb, hr, hml, hown, hts, hX, hbl, hlocks, hgv⟩ := id C0
  have hs := flat_of_before _ hgv
  have hg : ∀ w ∈ zGW, w.before #[Value.ref b] s = true := fun w hw => hts w (List.mem_filter.mp hw).1
  have hn : ∀ w ∈ zNW, va_Nw w s := fun w hw => va_Nw.of (zNW_on hw) (hts w (List.mem_filter.mp hw).1)
  obtain ⟨sa, hSF⟩ := n_SF hs hts
  obtain ⟨dC, dI, aC, hK⟩ := n_K hg
  have C : nCx (dC, dI, (fun _ _ => 0), aC, sa, []) p s m #[Value.ref b] meth c "VillageWavesLaw" code 10 ret (fun q => s.heap.size ≤ q) := ⟨hx, hb, hml, hr, hlocks, hown, hg, hn, hK, hSF _ _ rfl (fun a h => Nat.not_le.mpr h), fun q h => h⟩
  obtain ⟨σ0, hF0, -, hz0⟩ := x_clear (v := 0) (σ := nσ0) (fun _ _ _ => 0)
  obtain ⟨σ1, hF1, -, -⟩ := x_clear (v := 1) (σ := nσ0) (fun _ _ _ => 0)
  obtain ⟨σ2, hF2, -, -⟩ := x_clear (v := 2) (σ := nσ0) (fun _ _ _ => 0)
  obtain ⟨σ3, hF3, -, -⟩ := x_clear (v := 3) (σ := nσ0) (fun _ _ _ => 0)
  obtain ⟨σM, hFM, hMr, hfr⟩ := m_clear (σ := nσM) nM_r nM_k
  have hJ : zJ (nS σ0 σ1 σ2 σ3 σM) (500 * 0) := n_J hz0 hMr hfr
  have hlaw := law_all (xs := xs) hL 512 0 1100 _ (by omega) (by decide) hJ (by decide)
  rw [show nI (6 * 0) = 0 from nI_0] at hlaw
  have hNc : zNc s := ⟨va_Nc.of (hs _ (by decide +kernel)), va_Nc.of (hs _ (by decide +kernel))⟩
  have hst : l.stackTraces = false := by
    show (!l.flags.contains noTraceFlag) = false
    rw [hflags]
    decide +kernel
  have hl := lv_entry ([.ref b]) (n := 10) (Nat.le_of_ble_eq_true rfl)
  rw [lg_entry_eq]
  generalize (lg_sl ([.ref b]) ++ List.replicate (10 - (lg_sl ([.ref b])).length) Slot.unset).toArray = ls at hl ⊢
  have hl : lv_has ls 10 [(0, .ref b)] := hl
  have hP : va_P (dC, dI) zcl [] s.heap := fun k q h => by simp at h
  have hD : va_D (fun q : Nat => s.heap.size ≤ q) [] := ⟨fun i j p q h => by simp at h, fun k q h => by simp at h⟩
  have go : nWV (dC, dI, (fun _ _ => 0), aC, sa, []) p l e room_1 s m #[Value.ref b] below meth c 10 0 0 (lw_Z below #[Value.ref b] s) (fun q => s.heap.size ≤ q) 0 [(0, .ref b)] [] [] := by
    refine n_new (ci := 8) (fs := [.null, .null, .null, .null, .int 0, .null]) C zin_8 zy8 rfl zq118 zq119 zq94 nf_8 (Nat.le_of_ble_eq_true rfl) (Nat.le_of_ble_eq_true rfl) d_law_0 (fun q0 => ?_)
    refine n_dup C d_law_3 rfl ?_
    refine n_callI (as := []) (rest := [.ref q0]) C nl_Law_103 (c_Waves_init l _ q0 hF0 hF1 hF2 hF3) rfl rfl (Nat.le_of_ble_eq_true rfl) ⟨(Nat.le_of_ble_eq_true rfl), (Nat.le_of_ble_eq_true rfl)⟩ ⟨(Nat.le_of_ble_eq_true rfl), (Nat.le_of_ble_eq_true rfl)⟩ d_law_4 (fun qW => ?_)
    refine n_astore_n C d_law_7 rfl (by decide) ?_
    refine n_new (ci := 9) (fs := [.null, .null, .null, .null, .null, .null, .null, .null, .int 0, .null, .int 0, .int 0, .int 0, .int 0, .int 0, .int 0, .int 0, .int 0, .long 0, .null, .int 0, .int 0, .int 0, .int 0]) C zin_9 zy9 rfl zq1257 zq1258 zq105 nf_9 (Nat.le_of_ble_eq_true rfl) (Nat.le_of_ble_eq_true rfl) d_law_8 (fun q8 => ?_)
    refine n_dup C d_law_11 rfl ?_
    refine n_callI (as := []) (rest := [.ref q8]) C nl_Law_106 (c_Model_init l _ q8 hFM) rfl rfl (Nat.le_of_ble_eq_true rfl) ⟨(Nat.le_of_ble_eq_true rfl), (Nat.le_of_ble_eq_true rfl)⟩ ⟨(Nat.le_of_ble_eq_true rfl), (Nat.le_of_ble_eq_true rfl)⟩ d_law_12 (fun qM => ?_)
    refine n_astore_n C d_law_15 rfl (by decide) ?_
    refine n_iconst (v := 1) C d_law_16 (by decide) ?_
    refine n_newa (at0 := .long) (ty := .long) (k0 := 2) (N := 1) (a0 := (1, .inr (.inl (fun k => if k = 0 then 0 else 0)))) C zq1769 rfl (fun _ _ h => h) rfl nz_l (by decide) (by decide) (by decide) (Nat.le_of_ble_eq_true rfl) (Nat.le_of_ble_eq_true rfl) d_law_17 (fun q17 => ?_)
    refine n_astore_n C d_law_19 rfl (by decide) ?_
    refine n_iconst (v := 1) C d_law_20 (by decide) ?_
    refine n_newa (at0 := .double) (ty := .double) (k0 := 3) (N := 1) (a0 := (1, .inr (.inr (.inr (.inl (fun k => if k = 0 then 0 else 0)))))) C zq1770 rfl (fun _ _ h => h) rfl nz_d (by decide) (by decide) (by decide) (Nat.le_of_ble_eq_true rfl) (Nat.le_of_ble_eq_true rfl) d_law_21 (fun q21 => ?_)
    refine n_astore C d_law_23 (by decide) ?_
    refine n_iconst (v := 0) C d_law_25 (by decide) ?_
    refine n_istore C d_law_26 (by decide) ?_
    intro ls H locs hl hP hD hS
    have hP : va_P (dC, dI) zcl (nW (dC, dI, (fun _ _ => 0), aC, sa, []) σ0 σ1 σ2 σ3 σM q0 qW q8 qM q17 q21) H := hP
    have hD : va_D (fun q => s.heap.size ≤ q) (nW (dC, dI, (fun _ _ => 0), aC, sa, []) σ0 σ1 σ2 σ3 σM q0 qW q8 qM q17 q21) := hD
    rw [n_world] at hP hD
    generalize hGe : nGf (dC, dI, (fun _ _ => 0), aC, sa, []) q0 qW q8 qM q17 q21 = G at hP hD
    have hZA : ∀ q, zA G s.heap.size q → s.heap.size ≤ q := fun q h => by
      rcases h with ⟨x, hx, rfl⟩ | h
      · obtain ⟨k, hk⟩ := List.getElem?_of_mem hx
        exact hD.2 k _ (zwd_at G _ hk)
      · exact h
    have hnA : ∀ a : Nat, a < s.heap.size → ¬ zA G s.heap.size a := fun a h h2 => absurd (hZA a h2) (Nat.not_le.mpr h)
    have CZ : zCx G p s m #[Value.ref b] meth c "VillageWavesLaw" code 10 ret := ⟨hx, hb, hml, hr, hlocks, hown, hg, hn, by rw [← hGe]; exact hK, hSF G _ (by rw [← hGe]; rfl) hnA, by rw [← hGe]; exact nLs_ok⟩
    have Lw : zLw G l s s b L xs := ⟨hX, hbl, hnA b hbl, hNc, hst, rfl, hZA⟩
    have hxl : zxl G := by rw [← hGe]; exact ⟨nLs_x, nLs_v⟩
    have hmll : zml G := by rw [← hGe]; exact nLs_m
    have h95 : (4, 95) ∈ zL G := by rw [← hGe]; show (4, 95) ∈ nLs; decide +kernel
    have h96 : (4, 96) ∈ zL G := by rw [← hGe]; show (4, 96) ∈ nLs; decide +kernel
    have hl' : lv_has ls 10 [(0, .ref b), (1, .ref (zad G 4 70)), (2, .ref (zad G 4 80)), (3, .ref (zad G 4 95)), (4, .ref (zad G 4 96)), (5, .int 0)] := by
      rw [← hGe]
      exact lv_sub hl [5, 4, 3, 2, 1, 0] rfl
    have hP' : va_P (zD G) zcl (zwd G (nS σ0 σ1 σ2 σ3 σM)) H := by rw [← hGe] at hP ⊢; exact hP
    refine (w_law CZ Lw hxl hmll h95 h96 1100).1 0 _ _ _ ?_ ?_ hlaw ls H locs hl' hP' (zD_A hD) ⟨hS.1, fun q h1 h2 => hS.2.1 q h1 (Nat.not_le.mpr h1), fun l hl => Or.inr (hS.2.2 l hl)⟩
    · exact Nat.le_of_ble_eq_true rfl
    · exact Nat.le_of_ble_eq_true rfl
  exact go ls s.heap [] hl hP hD va_S.rf
