/-! predictions; the slots -/
/-- the one state with the other's counters -/
def aW (A B : zAb) : zAb := fun f i j => if f = 13 then B f i j else A f i j
theorem aW_ne {A B : zAb} {f i j : Nat} (h : f ≠ 13) : aW A B f i j = A f i j := if_neg h
theorem aW_13 {A B : zAb} {i j : Nat} : aW A B 13 i j = B 13 i j := if_pos rfl
theorem aW_self {A : zAb} : aW A A = A := by
  funext f i j
  unfold aW
  split <;> rfl
theorem zMo_fr {f f' : Nat → Int32} {A : zAb} (h : zMo f A) (e : ∀ i, i < 2592 → f' i = f i) : zMo f' A := by
  obtain ⟨m0, m1, m2, m3, m4⟩ := h
  refine ⟨fun k hk => ?_, fun h k hh hk => ?_, fun w k hw hk => ?_, fun p h w hp hh hw => ?_, fun i k hi hk => ?_⟩
  · rw [e _ (by omega)]; exact m0 k hk
  · rw [e _ (by omega)]; exact m1 h k hh hk
  · rw [e _ (by omega)]; exact m2 w k hw hk
  · rw [e _ (by omega)]; exact m3 p h w hp hh hw
  · rw [e _ (by omega)]; exact m4 i k hi hk
theorem zMo_aW {f : Nat → Int32} {A B : zAb} (h : zMo f A) : zMo f (aW A B) := by
  obtain ⟨m0, m1, m2, m3, m4⟩ := h
  exact ⟨fun k hk => m0 k hk, fun h k hh hk => m1 h k hh hk, fun w k hw hk => m2 w k hw hk, fun p h w hp hh hw => by rw [aW_ne (by omega)]; exact m3 p h w hp hh hw, fun i k hi hk => m4 i k hi hk⟩
theorem aInv_aW {A B : zAb} {n m T : Nat} (hI : aInv A n m T) : aInv (aW A B) n m T :=
  aInv_cg hI (fun _ _ => rfl) (fun _ _ _ _ => rfl) (fun _ _ => rfl) (fun f i j a b => aW_ne (by omega))
theorem zC_aW {σ : zSt} {A B : zAb} {v n m T : Nat} {c : Int32} (hC : zC σ v A n m c T) : zC σ v (aW A B) n m (A 13 23 0 + c - B 13 23 0) T := by
  obtain ⟨⟨r1, r2, r3, r4, r5, r6⟩, r7, hI, hD, hL⟩ := hC
  obtain ⟨h1, h2, h3, h4, h5, h6, h7⟩ := r1
  refine ⟨⟨⟨h1, h2, h3, ?_, h5, h6, h7⟩, r2.cg (fun _ _ _ _ => rfl) (fun _ _ => rfl), r3.cg (fun _ _ _ _ => rfl) (fun f i j q => aW_ne (by omega)), r4.cg (fun _ _ _ => rfl) (fun f i j q => aW_ne (by omega)), r5.cg (fun _ _ _ => rfl) (fun f i j q _ => aW_ne (by omega)), r6.cg (fun _ _ _ => rfl) (fun _ _ => rfl)⟩, r7.cg (fun _ _ _ => rfl) rfl (fun _ _ => rfl), aInv_aW hI, aDue_cg hD (fun f x y q => aW_ne (by omega)), hL⟩
  rw [h4, aW_13, Int32.add_comm (B 13 23 0), Int32.sub_add_cancel]
theorem zfV.co {σ s : zSt} {v v2 b : Nat} (h : zCo σ v v2 b s) : zfV v σ s := ⟨h.2.1, h.2.2⟩
section JP
variable {σ : zSt} {K : Nat} {A : zAb} {n m T : Nat} {c : Int32}
/-- the draft at the minute's begin -/
theorem x_wid (hC : zC σ 0 A n m c T) : zOk (F_Waves_wishingInDraft σ) (fun q => q.1 = zm (aWish (aBegin A n) n m) n ∧ zVr q.2 1 (aBegin A n) n m c ∧ zfV 1 σ q.2) := by
  rw [F_Waves_wishingInDraft]
  refine zOk.bind (c_copyFrom (v := 1) (v2 := 0) (by decide)) (fun s1 h1 => ?_)
  have hC1 := zC_copy hC h1
  refine zOk.bind (c_beginDay hC1.1 hC1.2.2.1) (fun s2 ⟨h2, h3⟩ => ?_)
  rw [c_wishing h2 (aInv_begin hC1.2.2.1), Option.bind_some]
  exact ⟨_, rfl, rfl, h2, (zfV.co h1).tr h3.1⟩
theorem zC_f1 {σ' : zSt} (hC : zC σ 0 A n m c T) (h : zfV 1 σ σ') : zC σ' 0 A n m c T := zC_fr hC (fun o i => h.1 0 o i (by decide))
/-- the state laid aside -/
theorem m_aside {s : zSt} : zOk (F_Model_copy 4 81 (0 : Int32) 4 83 (0 : Int32) s) (fun s' => (∀ i, i < 2592 → s'.1 4 83 i = s.1 4 81 i) ∧ (∀ g o i, ¬ (g = 4 ∧ o = 83) → s'.1 g o i = s.1 g o i) ∧ s'.2 = s.2) :=
  (m_copy (σ := s) (o := 81) (o4 := 83) (a := 0) (b := 0) (by decide) (by decide) (by decide) (by decide) (by decide)).mono (fun x h => ⟨fun i hi => by have := h.1 i hi; rwa [Nat.zero_add] at this, fun g o i q => h.2.1 g o i (fun z => q ⟨z.1, z.2.1⟩), h.2.2⟩)
theorem m_unaside {s : zSt} : zOk (F_Model_copy 4 83 (0 : Int32) 4 81 (0 : Int32) s) (fun s' => (∀ i, i < 2592 → s'.1 4 81 i = s.1 4 83 i) ∧ (∀ g o i, ¬ (g = 4 ∧ o = 81) → s'.1 g o i = s.1 g o i) ∧ s'.2 = s.2) :=
  (m_copy (σ := s) (o := 83) (o4 := 81) (a := 0) (b := 0) (by decide) (by decide) (by decide) (by decide) (by decide)).mono (fun x h => ⟨fun i hi => by have := h.1 i hi; rwa [Nat.zero_add] at this, fun g o i q => h.2.1 g o i (fun z => q ⟨z.1, z.2.1⟩), h.2.2⟩)
/-- what holds while a state lies aside -/
def zAs (s s2 : zSt) (A B : zAb) : Prop := (∀ i, i < 2592 → s2.1 4 83 i = s.1 4 81 i) ∧ zfN s s2 ∧ zMr s A ∧ zMr s2 B
theorem zAs.mk0 {s s' : zSt} (hM : zMr s A) (h : (∀ i, i < 2592 → s'.1 4 83 i = s.1 4 81 i) ∧ (∀ g o i, ¬ (g = 4 ∧ o = 83) → s'.1 g o i = s.1 g o i) ∧ s'.2 = s.2) : zAs s s' A A :=
  ⟨h.1, ⟨fun g o i q => h.2.1 g o i (by omega), fun i _ _ => h.2.1 4 80 i (by omega), h.2.2⟩, hM, hM.same (fun i => h.2.1 4 81 i (by omega)) (fun i _ => h.2.1 4 80 i (by omega))⟩
theorem zAs.st {s s2 s3 : zSt} {B B' : zAb} (h : zAs s s2 A B) (f : zfM s2 s3) (hM : zMr s3 B') : zAs s s3 A B' :=
  ⟨fun i hi => (f.1 4 83 i (by omega)).trans (h.1 i hi), h.2.1.tr (zfN.m f), h.2.2.1, hM⟩
theorem zAs.back {s s2 : zSt} {B : zAb} (h : zAs s s2 A B) : zOk (F_Model_copy 4 83 (0 : Int32) 4 81 (0 : Int32) s2) (fun s3 => zMr s3 (aW A B) ∧ zfN s s3 ∧ (∀ g o i, ¬ (g = 4 ∧ o = 81) → s3.1 g o i = s2.1 g o i)) := by
  obtain ⟨s3, e, h1, h2, h3⟩ := m_unaside (s := s2)
  refine ⟨s3, e, ⟨?_, ?_, ?_, ?_⟩, h.2.1.tr ⟨fun g o i q => h2 g o i (by omega), fun i _ _ => h2 4 80 i (by omega), h3⟩, h2⟩
  · exact zMo_fr (zMo_aW h.2.2.1.1) (fun i hi => (h1 i hi).trans (h.1 i hi))
  · rw [aW_13, h2 4 80 21 (by omega)]; exact h.2.2.2.2.1
  · rw [aW_13, h2 4 80 22 (by omega)]; exact h.2.2.2.2.2.1
  · rw [aW_13, h2 4 80 23 (by omega)]; exact h.2.2.2.2.2.2
theorem aBegin_13 {i j : Nat} : aBegin A n 13 i j = A 13 i j := aBegin_at (Or.inl (by decide))
theorem aW_b {B : zAb} (h : ∀ i j, B 13 i j = A 13 i j) : aW A B = A := by
  funext f i j
  by_cases q : f = 13
  · subst q; rw [aW_13, h]
  · rw [aW_ne q]
theorem aBegin_c (hI : aInv A n m T) : aBegin A n 0 5 0 ≠ 0 ∧ (∀ h w, h < n → w < m → zTm (aBegin A n 8 h w) ∧ zTm (aBegin A n 11 h w)) ∧ (∃ x, x < 1000003 ∧ aBegin A n 0 9 0 = nI x) ∧ (∀ i, i < n → aBegin A n 1 i 4 = nI (aSh (aBegin A n) i) ∧ 0 < aSh (aBegin A n) i ∧ aSh (aBegin A n) i < 10) := aInv_c (aInv_begin hI)
theorem j_wishes (J : zJ σ K) : zR0 K (F_Waves_wishes σ) F_Model_wishes := by
  obtain ⟨A, n, m, c, T, hT, hC, hM, hp⟩ := id J
  obtain ⟨⟨r0, σ1⟩, e1, h1, h2, h3⟩ := x_wid hC
  have h1 : r0 = zm (aWish (aBegin A n) n m) n := h1
  subst h1
  refine zR0.ok hp hM (r := zm (aWish (aBegin A n) n m) n) ?_ (zfX.v1 h3) (zC_f1 hC h3) hT (Nat.le_refl K) (fun s hs _ => ?_)
  · simp only [F_Waves_wishes, e1, Option.bind_some, bd2, F_Model_fail, z10, z20, z00, if_true, if_false, eq_self, zs_AI, zs_SA]
  · obtain ⟨b1, b2, -⟩ := aBegin_c hC.2.2.1
    have hI := hC.2.2.1
    have hZ := hI.1
    rw [F_Model_wishes]
    refine zOk.bind m_aside (fun s1 k1 => ?_)
    have a1 := zAs.mk0 (hs.t8 0) k1
    refine zOk.bind (m_begin a1.2.2.2 hZ (aInv_c hI).1) (fun s2 ⟨k2, f2⟩ => ?_)
    have a2 := a1.st f2 k2
    refine zOk.bd2 (m_wishing k2 (aInv_begin hI).1 b1 b2) (fun r s3 ⟨k3, k4, f3⟩ => ?_)
    have k3 : r = _ := k3
    subst k3
    have a3 := a2.st f3 k4
    refine zOk.bind a3.back (fun s4 ⟨k5, f4, _⟩ => ?_)
    rw [aW_b (fun i j => aBegin_13)] at k5
    exact ⟨_, rfl, rfl, k5, (zfN.t8 s 0).tr f4⟩
theorem j_next (J : zJ σ K) : zR0 K (F_Waves_next σ) F_Model_next := by
  obtain ⟨A, n, m, c, T, hT, hC, hM, hp⟩ := id J
  obtain ⟨⟨r0, σ1⟩, e1, h1, h2, h3⟩ := x_wid hC
  have h1 : r0 = zm (aWish (aBegin A n) n m) n := h1
  subst h1
  have hI := hC.2.2.1
  have hZ := hI.1
  have X : zOk (F_Waves_next σ) (fun q => q.1 = aSpe (aBegin A n) n m ∧ zfV 1 σ q.2) := by
    rw [F_Waves_next, e1]
    show zOk (if zm (aWish (aBegin A n) n m) n = 0 then _ else _) _
    by_cases z : zm (aWish (aBegin A n) n m) n = 0
    · rw [if_pos z]
      exact ⟨_, rfl, by rw [aSpe, if_pos z], h3⟩
    · rw [if_neg z]
      refine zOk.bd2 (c_drawnOf h2 (aInv_begin hI) z) (fun r s ⟨g1, g2, g3⟩ => ⟨_, rfl, ?_, ?_⟩)
      · rw [aSpe, if_neg z]; exact g1
      · have g3 : s = _ := g3
        show zfV 1 σ s
        rw [g3]
        exact h3.tr (zfV.st 1 _ _ _ _)
  obtain ⟨⟨r1, σ2⟩, e2, h4, h5⟩ := X
  have h4 : r1 = _ := h4
  subst h4
  refine zR0.ok hp hM e2 (zfX.v1 h5) (zC_f1 hC h5) hT (Nat.le_refl K) (fun s hs _ => ?_)
  obtain ⟨b1, b2, ⟨x, hx, hX⟩, b4⟩ := aBegin_c hI
  rw [F_Model_next]
  refine zOk.bind m_aside (fun s1 k1 => ?_)
  have a1 := zAs.mk0 (hs.t8 0) k1
  refine zOk.bind (m_begin a1.2.2.2 hZ (aInv_c hI).1) (fun s2 ⟨k2, f2⟩ => ?_)
  have a2 := a1.st f2 k2
  refine zOk.bd2 (m_drawSpeaker k2 (aInv_begin hI).1 b1 b2 hx hX b4) (fun r s3 ⟨k3, k4, f3⟩ => ?_)
  have k3 : r = _ := k3
  subst k3
  have a3 := a2.st f3 k4
  refine zOk.bind a3.back (fun s4 ⟨k5, f4, _⟩ => ?_)
  have e13 : ∀ i j, aDrawn (aBegin A n) n m 13 i j = A 13 i j := fun i j => by
    unfold aDrawn
    split
    · exact aBegin_13
    · rw [aup_f (by decide)]; exact aBegin_13
  rw [aW_b e13] at k5
  exact ⟨_, rfl, rfl, k5, (zfN.t8 s 0).tr f4⟩
set_option maxHeartbeats 4000000 in
theorem zn_dd : ∀ a, a < 10 → ∀ s, s < 109 → 0 < s → zn64 (FP.ddiv (FP.i2d (nI a)) (FP.i2d (nI s))) = true := by decide +kernel
/-- a chance's answer; the double stays where it lies -/
def zRD (K : Nat) (X : Option (Int32 × zSt)) (fm : zSt → Option (UInt64 × zSt)) : Prop := zOk X (fun q => zOk (fm q.2) (fun p => zJ p.2 K ∧ p.2.1 4 80 8 = q.1 ∧ (q.1 = 0 → p.2.2.2 96 = p.1)))
theorem j_chance (J : zJ σ K) (a : Int32) : zRD K (F_Law_chance a σ) (F_Model_chance a) := by
  obtain ⟨A, n, m, c, T, hT, hC, hM, hp⟩ := id J
  have hn := hC.hn
  have hI := hC.2.2.1
  have hZ := hI.1
  rcases z_idx a (n := n) (by omega) with ⟨h, hh, rfl⟩ | ha
  · have h12 : h < 12 := by omega
    obtain ⟨⟨r0, σ1⟩, e1, h1, h2, h3⟩ := x_wid hC
    have h1 : r0 = zm (aWish (aBegin A n) n m) n := h1
    subst h1
    have hC1 := zC_f1 hC h3
    generalize hP : aWish (aBegin A n) n m = P at *
    have hsh := (aInv_c hI).2.2.2
    have sh : zs (fun h => if P h = true then A 1 h 4 else 0) n = nI (zrest P (aSh A) n 0) := zs_rest P (aSh A) (fun h => A 1 h 4) n (fun k hk => (hsh k hk).1) n (Nat.le_refl n)
    have x5 : F_Homes_sharesOf 0 (zm P n) σ1 = some (nI (zrest P (aSh A) n 0)) := by rw [c_sharesOf hC1.1 hI, sh]
    have x6 : F_Waves_contains (zm P n) (nI h) σ1 = some (if P h = true then 1 else 0) := z_contains (by omega) hh σ1
    have gM : ∀ s, zMr s A → zOk (F_Model_copy 4 81 (0 : Int32) 4 83 (0 : Int32) s) (fun s1 => zOk (F_Model_beginMinute s1) (fun s2 => zOk (F_Model_wishing s2) (fun q => q.1 = zm P n ∧ zOk (F_Model_copy 4 83 (0 : Int32) 4 81 (0 : Int32) q.2) (fun s4 => zMr s4 A ∧ zfN s s4 ∧ s4.1 4 80 8 = s.1 4 80 8)))) := fun s hs => by
      obtain ⟨b1, b2, -⟩ := aBegin_c hI
      obtain ⟨s1, e, k1⟩ := m_aside (s := s)
      have a1 := zAs.mk0 hs k1
      refine ⟨s1, e, ?_⟩
      obtain ⟨s2, e, k2, f2⟩ := m_begin a1.2.2.2 hZ (aInv_c hI).1
      have a2 := a1.st f2 k2
      refine ⟨s2, e, ?_⟩
      obtain ⟨q, e, k3, k4, f3⟩ := m_wishing k2 (aInv_begin hI).1 b1 b2
      have a3 := a2.st f3 k4
      refine ⟨q, e, by rw [k3, hP], ?_⟩
      obtain ⟨s4, e, k5, f4, g4⟩ := a3.back
      rw [aW_b (fun i j => aBegin_13)] at k5
      refine ⟨s4, e, k5, f4, ?_⟩
      rw [g4 4 80 8 (by omega), f3.2.1 8 (by decide), f2.2.1 8 (by decide), k1.2.1 4 80 8 (by omega)]
    have fin : ∀ d : UInt64, F_Waves_chance (nI h) σ = some (.inl (d, σ1)) → (∀ s, zMr s A → zOk (F_Model_chance (nI h) s) (fun q => q.1 = d ∧ zMr q.2 A ∧ zfN s q.2 ∧ q.2.1 4 80 8 = 0)) → zRD K (F_Law_chance (nI h) σ) (F_Model_chance (nI h)) := fun d g1 g2 => by
      refine ⟨(0, zsd σ1 96 d), by rw [F_Law_chance, g1]; rfl, ?_⟩
      have fx := zfX.v1 h3
      have hM1 : zMr (zsd σ1 96 d) A := hM.same (fun i => fx.1 4 81 i (by decide) (by decide)) (fun i _ => fx.1 4 80 i (by decide) (by decide))
      obtain ⟨q, e, k1, k2, k3, k4⟩ := g2 _ hM1
      refine ⟨q, e, zJ_mk (s2 := zsd σ1 96 d) hp fx rfl k3 hC1 k2 hT (Nat.le_refl K), k4, fun _ => ?_⟩
      rw [k3.2.2, k1]
      show (if (96 : Nat) = 96 then d else σ1.2.2 96) = d
      exact if_pos rfl
    have mst : ∀ s, zMr s A → ∀ (Q : UInt64 × zSt → Prop), (∀ s4, zMr s4 A → zfN s s4 → s4.1 4 80 8 = 0 → zOk (if ((zm P n >>> (nI h &&& 31)) &&& (1 : Int32)) = 0 then some (FP.dconst0, s4) else ((F_Model_of (nI h) (4 : Int32) s4).bind fun r14 => (F_Model_shares (zm P n) s4).bind fun r16 => if zn64 (FP.ddiv (FP.i2d r14) (FP.i2d r16)) = true then some ((FP.ddiv (FP.i2d r14) (FP.i2d r16)), s4) else none)) Q) → zOk (F_Model_chance (nI h) s) Q := fun s hs Q k => by
      rw [F_Model_chance, m_isHouse1 hs hZ hh, Option.bind_some, if_neg (by decide), B_Model_chance_14, if_pos (zst_8 s 0)]
      refine zOk.bind (gM _ (hs.t8 0)) (fun s1 g1 => ?_)
      refine zOk.bind g1 (fun s2 g2 => ?_)
      refine zOk.bd2 g2 (fun r s3 ⟨g3, g4⟩ => ?_)
      have g3 : r = zm P n := g3
      subst g3
      refine zOk.bind g4 (fun s4 ⟨g5, g6, g7⟩ => ?_)
      exact k s4 g5 ((zfN.t8 s 0).tr g6) (g7.trans (zst_8 s 0))
    by_cases q : P h = true
    · have hs9 : ∀ i, 0 ≤ i → i < 0 + n → aSh A i ≤ 9 := fun i _ b => by have := (hsh i (by omega)).2.2; omega
      have p0 : 0 < zrest P (aSh A) n 0 := zrest_pos ⟨h, by omega, by omega, q⟩ (fun i _ b => (hsh i (by omega)).2.1)
      have p1 : zrest P (aSh A) n 0 ≤ n * 9 := zrest_le hs9
      have sb : zrest P (aSh A) n 0 < 109 := by omega
      have nz := zn_dd (aSh A h) (hsh h hh).2.2 _ sb p0
      have e4 : F_Row_get 0 12 (nI h) σ1 = some (nI (aSh A h)) := by rw [r_get12 h12, (hC1.1.2.1 h hh).2.2.2.2.1, (hsh h hh).1]
      refine fin (FP.ddiv (FP.i2d (nI (aSh A h))) (FP.i2d (nI (zrest P (aSh A) n 0)))) ?_ (fun s hs => mst s hs _ (fun s4 k1 k2 k3 => ?_))
      · rw [F_Waves_chance, x_h1 hC hh, Option.bind_some]
        dsimp only
        rw [e1]
        show (F_Homes_sharesOf 0 (zm P n) σ1).bind _ = _
        rw [x5, Option.bind_some, x6, if_pos q, Option.bind_some, if_neg (by decide), if_pos (show (0 : Int32) < nI (zrest P (aSh A) n 0) from nI_lt (a := 0) p0 (by omega))]
        show (F_Row_get 0 12 (nI h) σ1).bind _ = _
        rw [e4, Option.bind_some, if_pos nz]
      · have e : ((zm P n >>> (nI h &&& 31)) &&& (1 : Int32)) = 1 := by rw [zm_get (by omega) hh, if_pos q]
        rw [e, if_neg (by decide), m_of4 k1 h12, Option.bind_some, m_shares k1 hZ, Option.bind_some, sh, (hsh h hh).1, if_pos nz]
        exact ⟨_, rfl, rfl, k1, k2, k3⟩
    · have q0 : P h = false := by simpa using q
      refine fin FP.dconst0 ?_ (fun s hs => mst s hs _ (fun s4 k1 k2 k3 => ?_))
      · rw [F_Waves_chance, x_h1 hC hh, Option.bind_some]
        dsimp only
        rw [e1]
        show (F_Homes_sharesOf 0 (zm P n) σ1).bind _ = _
        rw [x5, Option.bind_some, x6, if_neg q, Option.bind_some, if_pos rfl]
      · have e : ((zm P n >>> (nI h &&& 31)) &&& (1 : Int32)) = 0 := (zm_has (by omega) hh).mpr q0
        rw [e, if_pos rfl]
        exact ⟨_, rfl, rfl, k1, k2, k3⟩
  · refine ⟨(1, σ), ?_, (FP.dconst0, zst σ 4 80 8 1), ?_, J.t8 1, zst_8 σ 1, fun z => absurd z (show ¬ (1 : Int32) = 0 by decide)⟩
    · simp only [F_Law_chance, F_Waves_chance, x_h0 hC ha, Option.bind_some, bd2, F_Model_fail, z10, z20, z00, if_true, if_false, eq_self, zs_AI, zs_SA]
    · show F_Model_chance a σ = _
      rw [F_Model_chance, m_isHouse0 hM hZ ha, Option.bind_some, if_pos rfl, B_Model_chance_14, if_neg (by rw [zst_8]; decide)]
theorem j_reached (J : zJ σ K) (hK : K + 500 < 2 ^ 28) (a b d : Int32) : zRI K (F_Law_reached a b d σ) (F_Model_reached a b d) := by
  obtain ⟨A, n, m, c, T, hT, hC, hM, hp⟩ := id J
  have hn := hC.hn
  have hm := hC.hm
  have hI := hC.2.2.1
  have hZ := hI.1
  rcases z_idx a (n := m) (by omega) with ⟨w, hw, rfl⟩ | ha
  · cases q1 : zBt b 1 500 with
    | false =>
      refine zRI.no (k := 2) J hM ?_ (by decide) (fun s hs _ => ?_)
      · simp only [F_Law_reached, F_Waves_reached, x_w1 hC hw, x_in0 q1, Option.bind_some, bd2, F_Model_fail, z10, z20, z00, if_true, if_false, eq_self, zs_AI, zs_SA]
      · simp only [F_Model_reached, m_isNews1 (hs.t8 0) hZ hw, m_in0 q1, Option.bind_some, bd2, F_Model_fail, z10, z20, z00, if_true, if_false, eq_self, zs_AI, zs_SA]
    | true =>
    cases q2 : zBt d 0 2 with
    | false =>
      refine zRI.no (k := 2) J hM ?_ (by decide) (fun s hs _ => ?_)
      · simp only [F_Law_reached, F_Waves_reached, x_w1 hC hw, x_in1 q1, x_in0 q2, Option.bind_some, bd2, F_Model_fail, z10, z20, z00, if_true, if_false, eq_self, zs_AI, zs_SA]
      · simp only [F_Model_reached, m_isNews1 (hs.t8 0) hZ hw, m_in1 q1, m_in0 q2, Option.bind_some, bd2, F_Model_fail, z10, z20, z00, if_true, if_false, eq_self, zs_AI, zs_SA]
    | true =>
      have q1' := q1
      have q2' := q2
      obtain ⟨k, hk1, hk2, rfl⟩ := z_rng (lo := 1) (hi := 500) q1 (by decide) (by decide)
      obtain ⟨t, -, ht, rfl⟩ := z_rng (lo := 0) (hi := 2) q2 (by decide) (by decide)
      obtain ⟨s1, e1, h1⟩ := c_copyFrom (σ := σ) (v := 1) (v2 := 0) (by decide)
      have hC1 := zC_copy hC h1
      obtain ⟨s2, e2, h2, h3⟩ := c_pass hC1 (k := k) (by omega) hk2
      have fV := (zfV.co h1).tr h3
      generalize hB : aPass A n m k = B at h2
      have ans : F_Waves_reached (nI w) (nI k) (nI t) σ = some (.inl (nI (fb_ct (fun h => aKn B h w t) n), s2)) := by
        rw [F_Waves_reached, x_w1 hC hw, Option.bind_some]
        dsimp only
        rw [x_in1 q1', Option.bind_some]
        dsimp only
        rw [x_in1 q2', Option.bind_some]
        dsimp only
        rw [e1, Option.bind_some, e2, Option.bind_some]
        obtain ⟨-, -, -, -, -, -, g6, g7, -⟩ := h2.1.2.2.1 w hw
        rcases (show t = 0 ∨ t = 1 ∨ t = 2 by omega) with rfl | rfl | rfl
        · rw [if_pos (show nI 0 = (0 : Int32) from rfl), r_get37 (by omega), Option.bind_some, g6, z_bitCount _ (by omega), Option.bind_some]
          rfl
        · rw [if_neg (show ¬ nI 1 = (0 : Int32) by decide), if_pos (show nI 1 = (1 : Int32) from rfl), r_get39 (by omega), Option.bind_some, g7, z_bitCount _ (by omega), Option.bind_some]
          rfl
        · rw [if_neg (show ¬ nI 2 = (0 : Int32) by decide), if_neg (show ¬ nI 2 = (1 : Int32) by decide), c_uncorrectedHouses h2.1 h2.2.2.1 hw, Option.bind_some, z_bitCount _ (by omega), Option.bind_some]
      refine zRI.ok (r := nI (fb_ct (fun h => aKn B h w t) n)) hp hM (by rw [F_Law_reached, ans]; rfl) (zfX.v1 fV) (zC_aW (B := B) (zC_f1 hC fV)) hT (Nat.le_refl K) (fun s hs _ => ?_)
      rw [F_Model_reached, m_isNews1 (hs.t8 0) hZ hw, Option.bind_some, if_neg (by decide), m_in1 q1', Option.bind_some, if_neg (by decide), m_in1 q2', Option.bind_some, if_neg (by decide)]
      refine zOk.bind m_aside (fun s1 k1 => ?_)
      have a1 := zAs.mk0 (hs.t8 0) k1
      refine zOk.bind (m_pass a1.2.2.2 hC (by omega) hk2) (fun s3 ⟨g1, g2⟩ => ?_)
      rw [hB] at g1
      have a2 := a1.st g2 g1
      rw [m_housesOf g1 h2.2.2.1.1 (show w < 20 by omega) (show t < 3 by omega), Option.bind_some]
      refine zOk.bind a2.back (fun s4 ⟨k5, f4, g4⟩ => ?_)
      rw [m_size (by omega), Option.bind_some]
      refine ⟨_, rfl, rfl, k5, (zfN.t8 s 0).tr f4, ?_⟩
      show s4.1 4 80 8 = 0
      rw [g4 4 80 8 (by omega), g2.2.1 8 (by decide), k1.2.1 4 80 8 (by omega), zst_8]
  · refine zRI.no (k := 1) J hM ?_ (by decide) (fun s hs _ => ?_)
    · simp only [F_Law_reached, F_Waves_reached, x_w0 hC ha, Option.bind_some, bd2, F_Model_fail, z10, z20, z00, if_true, if_false, eq_self, zs_AI, zs_SA]
    · simp only [F_Model_reached, m_isNews0 (hs.t8 0) hZ ha, Option.bind_some, bd2, F_Model_fail, z10, z20, z00, if_true, if_false, eq_self, zs_AI, zs_SA]
end JP
