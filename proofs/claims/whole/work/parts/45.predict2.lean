/-! correctedIn, bestAuthor, the slots -/
section JC
variable {σ : zSt} {K : Nat} {A : zAb} {n m T : Nat} {c : Int32}
/-- what is left uncorrected after i minutes -/
def cU (A : zAb) (n m w i : Nat) : Int32 := zm (fun h => aKn (aPass A n m i) h w 2) n
def cI (A : zAb) (n m w : Nat) : Nat → Nat → Int32 × Nat
  | i, 0 => if cU A n m w i = 0 then (nI i, i) else (-1, i)
  | i, d + 1 => if cU A n m w i = 0 then (nI i, i) else cI A n m w (i + 1) d
theorem x_corL {k w : Nat} (hk : k ≤ 500) (hw : w < m) (hT : T + k + 1 < 2 ^ 28) : ∀ d i j (s : zSt), i + d = k → zC s 1 (aPass A n m i) n m c (T + i) → d + 2 < j → zOk (L_Waves_correctedIn j 0 (nI w) (nI k) (nI i) s) (fun o => ∃ s', o = .inl ((cI A n m w i d).1, s') ∧ zfV 1 s s') := by
  intro d
  induction d with
  | zero =>
    intro i j s hi hC hj
    obtain ⟨j, rfl⟩ : ∃ q, j = q + 1 := ⟨j - 1, by omega⟩
    have e : i = k := by omega
    subst e
    rw [e_Waves_correctedIn_0, if_neg (nI_nlt (Nat.le_refl i) (by omega)), c_uncorrectedHouses hC.1 hC.2.2.1 hw, Option.bind_some]
    show zOk (if cU A n m w i = 0 then _ else _) _
    rw [cI]
    by_cases z : cU A n m w i = 0
    · rw [if_pos z, if_pos z]
      exact ⟨_, rfl, s, rfl, zfV.rf 1 s⟩
    · rw [if_neg z, if_neg z]
      refine zOk.bind (c_minute hC (by omega)) (fun s2 ⟨g1, g2⟩ => ?_)
      obtain ⟨j, rfl⟩ : ∃ q, j = q + 1 := ⟨j - 1, by omega⟩
      rw [nI_1, e_Waves_correctedIn_0, if_pos (nI_lt (Nat.lt_succ_self i) (by omega))]
      exact ⟨_, rfl, s2, rfl, g2⟩
  | succ d ih =>
    intro i j s hi hC hj
    obtain ⟨j, rfl⟩ : ∃ q, j = q + 1 := ⟨j - 1, by omega⟩
    rw [e_Waves_correctedIn_0, if_neg (nI_nlt (show i ≤ k by omega) (by omega)), c_uncorrectedHouses hC.1 hC.2.2.1 hw, Option.bind_some]
    show zOk (if cU A n m w i = 0 then _ else _) _
    rw [cI]
    by_cases z : cU A n m w i = 0
    · rw [if_pos z, if_pos z]
      exact ⟨_, rfl, s, rfl, zfV.rf 1 s⟩
    · rw [if_neg z, if_neg z]
      refine zOk.bind (c_minute hC (by omega)) (fun s2 ⟨g1, g2⟩ => ?_)
      rw [nI_1]
      obtain ⟨o, e, s3, e3, g3⟩ := ih (i + 1) j s2 (by omega) g1 (by omega)
      exact ⟨o, e, s3, e3, g2.tr g3⟩
theorem m_corL {s0 s1 : zSt} (hC : zC s1 0 A n m c T) {k w : Nat} (hk : k ≤ 500) (hw : w < m) (hT : T + k < 2 ^ 28) : ∀ d i j (s : zSt), i + d = k → zAs s0 s A (aPass A n m i) → d + 3 < j → zOk (L_Model_correctedIn j 0 (nI w) (nI k) (nI i) 0 s) (fun q => q.1 = (cI A n m w i d).1 ∧ zMr q.2 (aW A (aPass A n m (cI A n m w i d).2)) ∧ zfN s0 q.2 ∧ q.2.1 4 80 8 = s.1 4 80 8) := by
  have hm := hC.hm
  have inv : ∀ i, i ≤ k → aInv (aPass A n m i) n m (T + i) := fun i hi => by
    obtain ⟨s2, h2⟩ := c_passN (k := i) hC (by omega)
    exact h2.2.2.1
  have fin : ∀ (i : Nat) (y r : Int32) (j : Nat) (s : zSt), zAs s0 s A (aPass A n m i) → r = (if y = 0 then -1 else nI i) → zOk (L_Model_correctedIn (j + 1) 1 0 0 (nI i) y s) (fun q => q.1 = r ∧ zMr q.2 (aW A (aPass A n m i)) ∧ zfN s0 q.2 ∧ q.2.1 4 80 8 = s.1 4 80 8) := fun i y r j s ha hr => by
    rw [e_Model_correctedIn_1]
    refine zOk.bind ha.back (fun s3 ⟨g1, g2, g3⟩ => ?_)
    have g8 := g3 4 80 8 (by omega)
    by_cases z : y = 0
    · rw [if_pos z]
      rw [if_pos z] at hr
      exact ⟨_, rfl, hr.symm, g1, g2, g8⟩
    · rw [if_neg z]
      rw [if_neg z] at hr
      exact ⟨_, rfl, hr.symm, g1, g2, g8⟩
  intro d
  induction d with
  | zero =>
    intro i j s hi ha hj
    obtain ⟨j, rfl⟩ : ∃ q, j = q + 2 := ⟨j - 2, by omega⟩
    have e : i = k := by omega
    subst e
    have ho : F_Model_housesOf (nI w) 2 s = some (cU A n m w i) := m_housesOf (s := 2) ha.2.2.2 (inv i (Nat.le_refl i)).1 (show w < 20 by omega) (by decide)
    rw [e_Model_correctedIn_0, if_pos (nI_le0 (by omega)), ho, Option.bind_some, cI]
    by_cases z : cU A n m w i = 0
    · rw [if_pos z, if_pos z]
      exact fin i 1 _ _ s ha rfl
    · rw [if_neg z, if_neg z]
      exact fin i 0 _ _ s ha rfl
  | succ d ih =>
    intro i j s hi ha hj
    obtain ⟨j, rfl⟩ : ∃ q, j = q + 2 := ⟨j - 2, by omega⟩
    have ho : F_Model_housesOf (nI w) 2 s = some (cU A n m w i) := m_housesOf (s := 2) ha.2.2.2 (inv i (by omega)).1 (show w < 20 by omega) (by decide)
    rw [e_Model_correctedIn_0, if_neg (nI_ge (show i < k by omega) (by omega)), ho, Option.bind_some, cI]
    by_cases z : cU A n m w i = 0
    · rw [if_pos z, if_pos z, Option.bind_some, if_pos z]
      exact fin i 1 _ _ s ha rfl
    · rw [if_neg z, if_neg z]
      refine zOk.bind (m_min ha.2.2.2 (inv i (by omega))) (fun s2 ⟨g1, g2⟩ => ?_)
      rw [nI_1]
      have a2 : zAs s0 s2 A (aPass A n m (i + 1)) := ha.st g2 g1
      refine (ih (i + 1) (j + 1) s2 (by omega) a2 (by omega)).mono (fun q hq => ⟨hq.1, hq.2.1, hq.2.2.1, hq.2.2.2.trans (g2.2.1 8 (by decide))⟩)
theorem j_correctedIn (J : zJ σ K) (hK : K + 501 < 2 ^ 28) (a b : Int32) : zRI K (F_Law_correctedIn a b σ) (F_Model_correctedIn a b) := by
  obtain ⟨A, n, m, c, T, hT, hC, hM, hp⟩ := id J
  have hn := hC.hn
  have hm := hC.hm
  have hI := hC.2.2.1
  have hZ := hI.1
  rcases z_idx a (n := m) (by omega) with ⟨w, hw, rfl⟩ | ha
  · cases q1 : zBt b 1 500 with
    | false =>
      refine zRI.no (k := 2) J hM ?_ (by decide) (fun s hs _ => ?_)
      · simp only [F_Law_correctedIn, F_Waves_correctedIn, x_w1 hC hw, x_in0 q1, Option.bind_some, bd2, F_Model_fail, z10, z20, z00, if_true, if_false, eq_self, zs_AI, zs_SA]
      · simp only [F_Model_correctedIn, m_isNews1 (hs.t8 0) hZ hw, m_in0 q1, Option.bind_some, bd2, F_Model_fail, z10, z20, z00, if_true, if_false, eq_self, zs_AI, zs_SA]
    | true =>
      have q1' := q1
      obtain ⟨k, hk1, hk2, rfl⟩ := z_rng (lo := 1) (hi := 500) q1 (by decide) (by decide)
      by_cases k4 : aCor A w = true
      · have cor : F_Tidings_isCorrected 0 (nI w) σ = some 1 := by rw [c_isCorrected hC.1 hI hw, k4]; rfl
        obtain ⟨s1, e1, h1⟩ := c_copyFrom (σ := σ) (v := 1) (v2 := 0) (by decide)
        have hC1 := zC_copy hC h1
        obtain ⟨o, e2, s2, e3, h3⟩ := x_corL (k := k) (w := w) hk2 hw (by omega) k 0 zK s1 (by omega) hC1 (zK_lt (by omega))
        have fV := (zfV.co h1).tr h3
        subst e3
        refine zRI.ok (r := (cI A n m w 0 k).1) hp hM ?_ (zfX.v1 fV) (zC_aW (B := aPass A n m (cI A n m w 0 k).2) (zC_f1 hC fV)) hT (Nat.le_refl K) (fun s hs _ => ?_)
        · have e2 : L_Waves_correctedIn zK 0 (nI w) (nI k) 0 s1 = some (.inl ((cI A n m w 0 k).1, s2)) := e2
          simp only [F_Law_correctedIn, F_Waves_correctedIn, x_w1 hC hw, x_in1 q1', cor, e1, e2, Option.bind_some, bd2, F_Model_fail, z10, z20, z00, if_true, if_false, eq_self, zs_AI, zs_SA]
        · have mco : F_Model_isCorrected (nI w) (zst s 4 80 8 0) = some 1 := by rw [m_isCorrected (hs.t8 0) (show w < 20 by omega), k4]; rfl
          rw [F_Model_correctedIn, m_isNews1 (hs.t8 0) hZ hw, Option.bind_some, if_neg (by decide), m_in1 q1', Option.bind_some, if_neg (by decide), mco, Option.bind_some, if_neg (by decide)]
          refine zOk.bind m_aside (fun s3 k1 => ?_)
          have a1 := zAs.mk0 (hs.t8 0) k1
          refine (m_corL hC hk2 hw (by omega) k 0 zK s3 (by omega) a1 (zK_lt (by omega))).mono (fun q hq => ⟨hq.1, hq.2.1, (zfN.t8 s 0).tr hq.2.2.1, ?_⟩)
          rw [hq.2.2.2, k1.2.1 4 80 8 (by omega), zst_8]
      · have k4 : aCor A w = false := by simpa using k4
        have cor : F_Tidings_isCorrected 0 (nI w) σ = some 0 := by rw [c_isCorrected hC.1 hI hw, k4]; rfl
        refine zRI.qry (r := -1) J hM ?_ (fun s hs _ => ?_)
        · simp only [F_Law_correctedIn, F_Waves_correctedIn, x_w1 hC hw, x_in1 q1', cor, Option.bind_some, bd2, F_Model_fail, z10, z20, z00, if_true, if_false, eq_self, zs_AI, zs_SA]
        · have mco : F_Model_isCorrected (nI w) (zst s 4 80 8 0) = some 0 := by rw [m_isCorrected (hs.t8 0) (show w < 20 by omega), k4]; rfl
          simp only [F_Model_correctedIn, m_isNews1 (hs.t8 0) hZ hw, m_in1 q1', mco, Option.bind_some, bd2, F_Model_fail, z10, z20, z00, if_true, if_false, eq_self, zs_AI, zs_SA]
  · refine zRI.no (k := 1) J hM ?_ (by decide) (fun s hs _ => ?_)
    · simp only [F_Law_correctedIn, F_Waves_correctedIn, x_w0 hC ha, Option.bind_some, bd2, F_Model_fail, z10, z20, z00, if_true, if_false, eq_self, zs_AI, zs_SA]
    · simp only [F_Model_correctedIn, m_isNews0 (hs.t8 0) hZ ha, Option.bind_some, bd2, F_Model_fail, z10, z20, z00, if_true, if_false, eq_self, zs_AI, zs_SA]
/-- the trials of authors, one after another; the counters go on -/
def aTr (A : zAb) (n m k : Nat) : Nat → zAb
  | 0 => A
  | i + 1 => aW A (aPass (aTell (aTr A n m k i) m i 0) n (m + 1) k)
def aTrP (A : zAb) (n m k i : Nat) : zAb := aPass (aTell (aTr A n m k i) m i 0) n (m + 1) k
def aTrC (A : zAb) (n m k i : Nat) : Nat := fb_ct (fun h => aKn (aTrP A n m k i) h m 0) n
def aBe (A : zAb) (n m k : Nat) : Nat → Int32 × Nat
  | 0 => (-1, 0)
  | i + 1 => if aTrC A n m k i ≤ (aBe A n m k i).2 then aBe A n m k i else (nI i, aTrC A n m k i)
theorem aBe_le {k : Nat} : ∀ {i : Nat}, (aBe A n m k i).2 ≤ n
  | 0 => Nat.zero_le n
  | i + 1 => by
    rw [aBe]
    split
    · exact aBe_le
    · exact fb_ct_le _ n
theorem zC_tr {s : zSt} (hC : zC s 0 A n m c T) (k : Nat) : ∀ i, ∃ c', zC s 0 (aTr A n m k i) n m c' T
  | 0 => ⟨c, hC⟩
  | i + 1 => ⟨_, zC_aW hC⟩
theorem x_try {s : zSt} (hC : zC s 0 A n m c T) (hm : m < 20) {k i : Nat} (hk : k ≤ 500) (hT : T + k < 2 ^ 28) (hi : i < n) : zOk (F_Village_copyFrom 1 0 s) (fun s1 => zOk (F_Village_addNews 1 (nI i) 0 s1) (fun q => q.1 = nI m ∧ zOk (F_Village_pass 1 (nI k) q.2) (fun s3 => zfV 1 s s3 ∧ F_Row_get 1 37 (nI m) s3 = some (zm (fun h => aKn (aTrP A n m k i) h m 0) n)))) ∧ ∃ s' c', zC s' 1 (aTell (aTr A n m k i) m i 0) n (m + 1) c' T := by
  obtain ⟨c', hC'⟩ := zC_tr hC k i
  obtain ⟨s1, e1, h1⟩ := c_copyFrom (σ := s) (v := 1) (v2 := 0) (by decide)
  have hC1 := zC_copy hC' h1
  obtain ⟨⟨r, s2⟩, e2, g1, g2, g3⟩ := c_addNews hC1 hm hi 0
  have g1 : r = nI m := g1
  subst g1
  obtain ⟨s3, e3, g4, g5⟩ := c_pass g2 hT hk
  refine ⟨⟨s1, e1, _, e2, rfl, s3, e3, ((zfV.co h1).tr g3).tr g5, ?_⟩, s2, c', g2⟩
  rw [r_get37 (by omega), (g4.1.2.2.1 m (by omega)).2.2.2.2.2.2.1]
  rfl
theorem j_bestAuthor (J : zJ σ K) (hK : K + 501 < 2 ^ 28) (a : Int32) : zRI K (F_Law_bestAuthor a σ) (F_Model_bestAuthor a) := by
  obtain ⟨A, n, m, c, T, hT, hC, hM, hp⟩ := id J
  have hn := hC.hn
  have hm := hC.hm
  have hI := hC.2.2.1
  have hZ := hI.1
  have ew := hC.1.1.2.2.2.2.2.1
  have en := hC.1.1.2.2.2.2.1
  cases q1 : zBt a 1 200 with
  | false =>
    refine zRI.no (k := 1) J hM ?_ (by decide) (fun s hs _ => ?_)
    · simp only [F_Law_bestAuthor, F_Waves_bestAuthor, x_in0 q1, Option.bind_some, bd2, F_Model_fail, z10, z20, z00, if_true, if_false, eq_self, zs_AI, zs_SA]
    · simp only [F_Model_bestAuthor, m_in0 q1, Option.bind_some, bd2, F_Model_fail, z10, z20, z00, if_true, if_false, eq_self, zs_AI, zs_SA]
  | true =>
    have q1' := q1
    obtain ⟨k, hk1, hk2, rfl⟩ := z_rng (lo := 1) (hi := 200) q1 (by decide) (by decide)
    by_cases h20 : m < 20
    · have fl : F_Tidings_isFull 0 σ = some 0 := by rw [x_fullw σ ew hm, if_pos h20]
      have X : zOk (L_Waves_bestAuthor zK 0 (nI k) (-1) 0 0 σ) (fun o => ∃ s', o = .inl ((aBe A n m k n).1, s') ∧ zfV 1 σ s') := by
        refine z_loopC (fun j i (p : (Int32 × Nat) × zSt) => L_Waves_bestAuthor j 0 (nI k) p.1.1 (nI p.1.2) (nI i) p.2) n 0 (fun i p => p.1 = aBe A n m k i ∧ zfV 1 σ p.2) _ (fun i p hi hI2 j kk => ?_) (fun p hI2 j hj => ?_) zK ((-1, 0), σ) (zK_lt (by omega)) ⟨rfl, zfV.rf 1 σ⟩
        · obtain ⟨⟨x, y⟩, st⟩ := p
          obtain ⟨i1, i2⟩ := hI2
          have i1 : (x, y) = aBe A n m k i := i1
          have hCs : zC st 0 A n m c T := zC_f1 hC i2
          obtain ⟨t1, -⟩ := x_try hCs h20 (k := k) (i := i) (by omega) (by omega) hi
          try dsimp only
          rw [e_Waves_bestAuthor_0, hCs.1.1.2.2.2.2.1, if_neg (nI_ge hi (by omega))]
          refine zOk.bind t1 (fun s1 t2 => ?_)
          refine zOk.bd2 t2 (fun r s2 ⟨t3, t4⟩ => ?_)
          have t3 : r = nI m := t3
          subst t3
          refine zOk.bind t4 (fun s3 ⟨t5, t6⟩ => ?_)
          rw [t6, Option.bind_some, z_bitCount _ (by omega), Option.bind_some]
          have ey : y = (aBe A n m k i).2 := by rw [← i1]
          have le1 : y ≤ n := by rw [ey]; exact aBe_le
          have le2 : fb_ct (fun h => aKn (aTrP A n m k i) h m 0) n ≤ n := fb_ct_le _ n
          by_cases z : fb_ct (fun h => aKn (aTrP A n m k i) h m 0) n ≤ y
          · rw [if_pos (nI_le z (by omega)), nI_1]
            refine kk ((x, y), s3) ⟨?_, i2.tr t5⟩
            show (x, y) = _
            rw [aBe, if_pos (by rw [← ey]; exact z), i1]
          · rw [if_neg (nI_ge (by omega) (by omega)), nI_1]
            refine kk ((nI i, aTrC A n m k i), s3) ⟨?_, i2.tr t5⟩
            show (nI i, aTrC A n m k i) = _
            rw [aBe, if_neg (by rw [← ey]; exact z)]
        · obtain ⟨⟨x, y⟩, st⟩ := p
          obtain ⟨i1, i2⟩ := hI2
          have i1 : (x, y) = aBe A n m k n := i1
          have hCs : zC st 0 A n m c T := zC_f1 hC i2
          try dsimp only
          rw [e_Waves_bestAuthor_0, hCs.1.1.2.2.2.2.1, if_pos (nI_le0 (by omega))]
          exact ⟨_, rfl, st, by rw [← i1], i2⟩
      obtain ⟨o, e2, s2, e3, h3⟩ := X
      subst e3
      refine zRI.ok (r := (aBe A n m k n).1) (A' := aW A (aTr A n m k n)) hp hM ?_ (zfX.v1 h3) (zC_aW (zC_f1 hC h3)) hT (Nat.le_refl K) (fun s hs _ => ?_)
      · simp only [F_Law_bestAuthor, F_Waves_bestAuthor, x_in1 q1', fl, e2, Option.bind_some, bd2, F_Model_fail, z10, z20, z00, if_true, if_false, eq_self, zs_AI, zs_SA]
      · rw [F_Model_bestAuthor, m_in1 q1', Option.bind_some, if_neg (by decide)]
        refine zOk.bind m_aside (fun s3 k1 => ?_)
        have a1 := zAs.mk0 (hs.t8 0) k1
        have h8 : s3.1 4 80 8 = 0 := by rw [k1.2.1 4 80 8 (by omega), zst_8]
        refine z_loopC (fun j i (p : (Int32 × Nat) × zSt) => L_Model_bestAuthor j 0 (nI k) p.1.1 (nI p.1.2) (nI i) p.2) n 0 (fun i p => p.1 = aBe A n m k i ∧ zAs (zst s 4 80 8 0) p.2 A (aTr A n m k i) ∧ p.2.1 4 80 8 = 0) _ (fun i p hi hI2 j kk => ?_) (fun p hI2 j hj => ?_) zK ((-1, 0), s3) (zK_lt (by omega)) ⟨rfl, a1, h8⟩
        · obtain ⟨⟨x, y⟩, st⟩ := p
          obtain ⟨i1, i2, i3⟩ := hI2
          have i1 : (x, y) = aBe A n m k i := i1
          have i2 : zAs (zst s 4 80 8 0) st A (aTr A n m k i) := i2
          have i3 : st.1 4 80 8 = 0 := i3
          obtain ⟨-, s', c', hC2⟩ := x_try hC h20 (k := k) (i := i) (by omega) (by omega) hi
          obtain ⟨c3, hC3⟩ := zC_tr hC k i
          have hZ3 := hC3.2.2.1.1
          try dsimp only
          rw [e_Model_bestAuthor_0, i2.2.2.2.sc (by decide), hZ3.1, if_neg (nI_ge hi (by omega)), i2.2.2.2.sc (by decide), hZ3.2.1, if_neg (show ¬ (20 : Int32) ≤ nI m from nI_ge (b := 20) h20 (by decide))]
          refine zOk.bd2 (m_appendNews i2.2.2.2 hZ3.2.1 h20 (show i < 12 by omega) 0) (fun r s4 ⟨g1, g2, g3⟩ => ?_)
          have g1 : r = nI m := g1
          subst g1
          have a2 := i2.st g3 g2
          refine zOk.bind (m_pass g2 hC2 (k := k) (by omega) (by omega)) (fun s5 ⟨g4, g5⟩ => ?_)
          have a3 := a2.st g5 g4
          obtain ⟨s9, h9⟩ := c_passN (k := k) hC2 (by omega)
          have ho : F_Model_housesOf (nI m) 0 s5 = some (zm (fun h => aKn (aTrP A n m k i) h m 0) n) := m_housesOf (s := 0) g4 h9.2.2.1.1 h20 (by decide)
          rw [ho, Option.bind_some, m_size (by omega), Option.bind_some]
          refine zOk.bind a3.back (fun s6 ⟨g6, g7, g8⟩ => ?_)
          have e8 : s6.1 4 80 8 = 0 := by rw [g8 4 80 8 (by omega), g5.2.1 8 (by decide), g3.2.1 8 (by decide), i3]
          have a4 : zAs (zst s 4 80 8 0) s6 A (aTr A n m k (i + 1)) := ⟨fun u hu => (g8 4 83 u (by omega)).trans (a3.1 u hu), g7, i2.2.2.1, g6⟩
          have ey : y = (aBe A n m k i).2 := by rw [← i1]
          have le1 : y ≤ n := by rw [ey]; exact aBe_le
          have le2 : fb_ct (fun h => aKn (aTrP A n m k i) h m 0) n ≤ n := fb_ct_le _ n
          by_cases z : fb_ct (fun h => aKn (aTrP A n m k i) h m 0) n ≤ y
          · rw [if_pos (nI_le z (by omega)), nI_1]
            refine kk ((x, y), s6) ⟨?_, a4, e8⟩
            show (x, y) = _
            rw [aBe, if_pos (by rw [← ey]; exact z), i1]
          · rw [if_neg (nI_ge (by omega) (by omega)), nI_1]
            refine kk ((nI i, aTrC A n m k i), s6) ⟨?_, a4, e8⟩
            show (nI i, aTrC A n m k i) = _
            rw [aBe, if_neg (by rw [← ey]; exact z)]
        · obtain ⟨⟨x, y⟩, st⟩ := p
          obtain ⟨i1, i2, i3⟩ := hI2
          have i1 : (x, y) = aBe A n m k n := i1
          have i2 : zAs (zst s 4 80 8 0) st A (aTr A n m k n) := i2
          obtain ⟨c3, hC3⟩ := zC_tr hC k n
          have hZ3 := hC3.2.2.1.1
          have eT : aW A (aTr A n m k n) = aTr A n m k n := by
            cases n with
            | zero => exact aW_self
            | succ n =>
              funext f i j
              by_cases q : f = 13
              · subst q; rw [aW_13]
              · rw [aW_ne q, aTr, aW_ne q]
          try dsimp only
          rw [e_Model_bestAuthor_0, i2.2.2.2.sc (by decide), hZ3.1, if_pos (nI_le0 (by omega))]
          refine ⟨_, rfl, ?_, ?_, (zfN.t8 s 0).tr i2.2.1, i3⟩
          · show x = _
            rw [← i1]
          · rw [eT]; exact i2.2.2.2
    · have fl : F_Tidings_isFull 0 σ = some 1 := by rw [x_fullw σ ew hm, if_neg h20]
      have m20 : m = 20 := by omega
      refine zRI.ok (r := -1) (A' := A) hp hM ?_ (zfX.rf σ) hC hT (Nat.le_refl K) (fun s hs _ => ?_)
      · simp only [F_Law_bestAuthor, F_Waves_bestAuthor, x_in1 q1', fl, Option.bind_some, bd2, F_Model_fail, z10, z20, z00, if_true, if_false, eq_self, zs_AI, zs_SA]
      · rw [F_Model_bestAuthor, m_in1 q1', Option.bind_some, if_neg (by decide)]
        refine zOk.bind m_aside (fun s3 k1 => ?_)
        have a1 := zAs.mk0 (hs.t8 0) k1
        have h8 : s3.1 4 80 8 = 0 := by rw [k1.2.1 4 80 8 (by omega), zst_8]
        show zOk (L_Model_bestAuthor (99999 + 1) 0 (nI k) (-1) 0 0 s3) _
        rw [e_Model_bestAuthor_0]
        by_cases z : (s3.1 4 81 6) ≤ 0
        · rw [if_pos z]
          exact ⟨_, rfl, rfl, a1.2.2.2, (zfN.t8 s 0).tr a1.2.1, h8⟩
        · rw [if_neg z, if_pos (by rw [a1.2.2.2.sc (by decide), hZ.2.1, m20]; decide)]
          exact ⟨_, rfl, rfl, a1.2.2.2, (zfN.t8 s 0).tr a1.2.1, h8⟩
end JC
