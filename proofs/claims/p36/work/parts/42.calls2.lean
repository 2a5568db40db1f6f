/-! predictions, slots -/
theorem zn_dd : ∀ a, a < 10 → ∀ s, s < 109 → 0 < s → zn64 (FP.ddiv (FP.i2d (nI a)) (FP.i2d (nI s))) = true := by decide +kernel
section KD
variable {σ : zSt} {A : zAb} {n m T : Nat} {c : Int32}
def aQs (A : zAb) (n m : Nat) : Nat := zrest (aWish (aBegin A n) n m) (aSh A) n 0
def aChn (A : zAb) (n m h : Nat) : UInt64 := if aWish (aBegin A n) n m h = true then FP.ddiv (FP.i2d (nI (aSh A h))) (FP.i2d (nI (aQs A n m))) else FP.dconst0
theorem k_chance (hC : zC σ 0 A n m c T) {h : Nat} (hh : h < n) : zOk (F_Law_chance (nI h) σ) (fun q => q.1 = aChn A n m h ∧ zfV 1 σ q.2) := by
  have hn := hC.hn
  have hI := hC.2.2.1
  rw [F_Law_chance, F_Waves_chance, x_hs hC hh, Option.bind_some]
  refine zOk.bd2 (x_wid hC) (fun r0 σ1 ⟨h1, h2, h3⟩ => ?_)
  have h1 : r0 = zm (aWish (aBegin A n) n m) n := h1
  have h3 : zfV 1 σ σ1 := h3
  subst h1
  have hC1 := zC_f1 hC h3
  unfold aChn aQs
  generalize hP : aWish (aBegin A n) n m = P at *
  have hsh := (aInv_c hI).2.2.2
  have sh : zs (fun h => if P h = true then A 1 h 4 else 0) n = nI (zrest P (aSh A) n 0) := zs_rest P (aSh A) (fun h => A 1 h 4) n (fun k hk => (hsh k hk).1) n (Nat.le_refl n)
  have x5 : F_Homes_sharesOf 0 (zm P n) σ1 = some (nI (zrest P (aSh A) n 0)) := by rw [c_sharesOf hC1.1 hI, sh]
  have x6 : F_Waves_contains (zm P n) (nI h) σ1 = some (if P h = true then 1 else 0) := z_contains (by omega) hh σ1
  rw [x5, Option.bind_some, x6, Option.bind_some]
  by_cases q : P h = true
  · have hs9 : ∀ i, 0 ≤ i → i < 0 + n → aSh A i ≤ 9 := fun i _ b => by have := (hsh i (by omega)).2.2; omega
    have p0 : 0 < zrest P (aSh A) n 0 := zrest_pos ⟨h, by omega, by omega, q⟩ (fun i _ b => (hsh i (by omega)).2.1)
    have p1 : zrest P (aSh A) n 0 ≤ n * 9 := zrest_le hs9
    have sb : zrest P (aSh A) n 0 < 109 := by omega
    have nz := zn_dd (aSh A h) (hsh h hh).2.2 _ sb p0
    have e4 : F_Row_get 0 12 (nI h) σ1 = some (nI (aSh A h)) := by rw [r_get12 (by omega), (hC1.1.2.1 h hh).2.2.2.2.1, (hsh h hh).1]
    rw [if_pos q, if_pos q, if_neg (by decide), if_pos (show (0 : Int32) < nI (zrest P (aSh A) n 0) from nI_lt (a := 0) p0 (by omega)), e4, Option.bind_some, if_pos nz]
    exact ⟨_, rfl, rfl, h3⟩
  · rw [if_neg q, if_neg q, if_pos rfl]
    exact ⟨_, rfl, rfl, h3⟩
theorem k_draft (hC : zC σ 0 A n m c T) {k : Nat} (hT : T + k < 2 ^ 28) (hk : k ≤ 500) : zOk (F_Village_copyFrom 1 0 σ) (fun s1 => zOk (F_Village_pass 1 (nI k) s1) (fun s2 => zC s2 1 (aPass A n m k) n m c (T + k) ∧ zfV 1 σ s2)) := by
  obtain ⟨s1, e1, h1⟩ := c_copyFrom (σ := σ) (v := 1) (v2 := 0) (by decide)
  have hC1 := zC_copy hC h1
  obtain ⟨s2, e2, h2, h3⟩ := c_pass hC1 (k := k) hT hk
  exact ⟨s1, e1, s2, e2, h2, (zfV.co h1).tr h3⟩
theorem k_reached (hC : zC σ 0 A n m c T) {w k t : Nat} (hw : w < m) (hk1 : 1 ≤ k) (hk2 : k ≤ 500) (ht : t < 2) (hT : T + k < 2 ^ 28) : zOk (F_Law_reached (nI w) (nI k) (nI t) σ) (fun q => q.1 = nI (fb_ct (fun h => aKn (aPass A n m k) h w t) n) ∧ zfV 1 σ q.2) := by
  have hn := hC.hn
  have hm := hC.hm
  rw [F_Law_reached, F_Waves_reached, x_ws hC hw, Option.bind_some, x_in (show ¬ nI k < (1 : Int32) from nI_nlt (b := 1) hk1 (by omega)) (show nI k ≤ (500 : Int32) from nI_le (b := 500) hk2 (by decide)), Option.bind_some, x_in (nI_pos (by omega)) (show nI t ≤ (2 : Int32) from nI_le (b := 2) (by omega) (by decide)), Option.bind_some]
  refine zOk.bind (k_draft hC hT hk2) (fun s1 h1 => ?_)
  refine zOk.bind h1 (fun s2 ⟨h2, h3⟩ => ?_)
  obtain ⟨-, -, -, -, -, -, g6, g7, -⟩ := h2.1.2.2.1 w hw
  rcases (show t = 0 ∨ t = 1 by omega) with rfl | rfl
  · rw [if_pos (show nI 0 = (0 : Int32) from rfl), r_get37 (by omega), Option.bind_some, g6, z_bitCount _ (by omega), Option.bind_some]
    exact ⟨_, rfl, rfl, h3⟩
  · rw [if_neg (show ¬ nI 1 = (0 : Int32) by decide), if_pos (show nI 1 = (1 : Int32) from rfl), r_get39 (by omega), Option.bind_some, g7, z_bitCount _ (by omega), Option.bind_some]
    exact ⟨_, rfl, rfl, h3⟩
def aAhd (A : zAb) (n m k t : Nat) : Int32 := if t = 0 then aPass A n m k 0 10 0 - A 0 10 0 else if t = 1 then kS (aPass A n m k) 3 n m - kS A 3 n m else if t = 2 then kS (aPass A n m k) 4 n m - kS A 4 n m else aPass A n m k 13 23 0 - A 13 23 0
theorem k_ahead (hC : zC σ 0 A n m c T) {k t : Nat} (hk1 : 1 ≤ k) (hk2 : k ≤ 500) (ht : t < 4) (hT : T + k < 2 ^ 28) : zOk (F_Law_ahead (nI k) (nI t) σ) (fun q => q.1 = aAhd A n m k t ∧ zfV 1 σ q.2) := by
  rw [F_Law_ahead, F_Waves_ahead, x_in (show ¬ nI k < (1 : Int32) from nI_nlt (b := 1) hk1 (by omega)) (show nI k ≤ (500 : Int32) from nI_le (b := 500) hk2 (by decide)), Option.bind_some, x_in (nI_pos (by omega)) (show nI t ≤ (3 : Int32) from nI_le (b := 3) (by omega) (by decide)), Option.bind_some]
  refine zOk.bind (k_draft hC hT hk2) (fun s1 h1 => ?_)
  refine zOk.bind h1 (fun s2 ⟨h2, h3⟩ => ?_)
  have hC2 := zC_f1 hC h3
  unfold aAhd
  rcases (show t = 0 ∨ t = 1 ∨ t = 2 ∨ t = 3 by omega) with rfl | rfl | rfl | rfl
  · rw [if_pos (show nI 0 = (0 : Int32) from rfl), if_pos rfl, h2.2.1.1, hC2.2.1.1]
    exact ⟨_, rfl, rfl, h3⟩
  · rw [if_neg (show ¬ nI 1 = (0 : Int32) by decide), if_pos (show nI 1 = (1 : Int32) from rfl), x_sizes (p := 3) (Or.inl ⟨rfl, rfl⟩) hC2 h2, Option.bind_some]
    exact ⟨_, rfl, rfl, h3⟩
  · rw [if_neg (show ¬ nI 2 = (0 : Int32) by decide), if_neg (show ¬ nI 2 = (1 : Int32) by decide), if_pos (show nI 2 = (2 : Int32) from rfl), x_sizes (p := 4) (Or.inr ⟨rfl, rfl⟩) hC2 h2, Option.bind_some]
    exact ⟨_, rfl, rfl, h3⟩
  · rw [if_neg (show ¬ nI 3 = (0 : Int32) by decide), if_neg (show ¬ nI 3 = (1 : Int32) by decide), if_neg (show ¬ nI 3 = (2 : Int32) by decide), h2.1.1.2.2.2.1, hC2.1.1.2.2.2.1, z_subs]
    exact ⟨_, rfl, rfl, h3⟩
/-- the first place up to i where P holds -/
def cG (P : Nat → Bool) : Nat → Int32
  | 0 => if P 0 = true then 0 else -1
  | i + 1 => if cG P i = -1 then (if P (i + 1) = true then nI (i + 1) else -1) else cG P i
theorem cG_no {P : Nat → Bool} : ∀ {i : Nat}, (∀ j, j ≤ i → P j = false) → cG P i = -1
  | 0, h => by rw [cG, h 0 (Nat.le_refl 0)]; rfl
  | i + 1, h => by rw [cG, if_pos (cG_no (fun j hj => h j (by omega))), h (i + 1) (Nat.le_refl _)]; rfl
theorem nI_m1 {j : Nat} (hj : j < 2 ^ 31) : ¬ nI j = -1 := fun y => by
  have := congrArg Int32.toInt y
  rw [nI_toInt hj] at this
  have : (-1 : Int32).toInt = -1 := by decide
  omega
theorem cG_at {P : Nat → Bool} {j : Nat} (hj : j < 2 ^ 31) (h0 : ∀ i, i < j → P i = false) (h1 : P j = true) : ∀ {i : Nat}, j ≤ i → cG P i = nI j
  | 0, h => by
    have : j = 0 := by omega
    subst this
    rw [cG, if_pos h1]; rfl
  | i + 1, h => by
    rw [cG]
    by_cases q : j = i + 1
    · subst q
      rw [if_pos (cG_no (fun j hj => h0 j (by omega))), if_pos h1]
    · rw [cG_at hj h0 h1 (i := i) (by omega), if_neg (nI_m1 hj)]
def cUn (A : zAb) (n m w i : Nat) : Bool := decide (zm (fun h => aKn (aPass A n m i) h w 2) n = 0)
theorem x_corL {k w : Nat} (hk : k ≤ 500) (hw : w < m) (hT : T + k + 1 < 2 ^ 28) : ∀ d i j (s : zSt), i + d = k + 1 → zC s 1 (aPass A n m i) n m c (T + i) → (∀ j, j < i → cUn A n m w j = false) → d + 1 < j → zOk (L_Waves_correctedIn j 0 (nI w) (nI k) (nI i) s) (fun q => q.1 = cG (cUn A n m w) k ∧ zfV 1 s q.2) := by
  intro d
  induction d with
  | zero =>
    intro i j s hi hC h0 hj
    obtain ⟨j, rfl⟩ : ∃ q, j = q + 1 := ⟨j - 1, by omega⟩
    rw [e_Waves_correctedIn_0, if_pos (nI_lt (by omega) (by omega))]
    exact ⟨_, rfl, (cG_no (fun u hu => h0 u (by omega))).symm, zfV.rf 1 s⟩
  | succ d ih =>
    intro i j s hi hC h0 hj
    obtain ⟨j, rfl⟩ : ∃ q, j = q + 1 := ⟨j - 1, by omega⟩
    rw [e_Waves_correctedIn_0, if_neg (nI_nlt (show i ≤ k by omega) (by omega)), c_uncorrectedHouses hC.1 hC.2.2.1 hw, Option.bind_some]
    by_cases z : zm (fun h => aKn (aPass A n m i) h w 2) n = 0
    · rw [if_pos z]
      exact ⟨_, rfl, (cG_at (by omega) h0 (decide_eq_true z) (by omega)).symm, zfV.rf 1 s⟩
    · rw [if_neg z]
      refine zOk.bind (c_minute hC (by omega)) (fun s2 ⟨g1, g2⟩ => ?_)
      rw [nI_1]
      refine (ih (i + 1) j s2 (by omega) g1 (fun u hu => ?_) (by omega)).mono (fun q ⟨a, b⟩ => ⟨a, g2.tr b⟩)
      rcases Nat.lt_or_ge u i with y | y
      · exact h0 u y
      · rw [show u = i by omega]; exact decide_eq_false z
theorem k_corIn (hC : zC σ 0 A n m c T) {w k : Nat} (hw : w < m) (hk1 : 1 ≤ k) (hk2 : k ≤ 500) (hT : T + k + 1 < 2 ^ 28) : zOk (F_Law_correctedIn (nI w) (nI k) σ) (fun q => q.1 = (if aCor A w = true then cG (cUn A n m w) k else -1) ∧ zfV 1 σ q.2) := by
  rw [F_Law_correctedIn, F_Waves_correctedIn, x_ws hC hw, Option.bind_some, x_in (show ¬ nI k < (1 : Int32) from nI_nlt (b := 1) hk1 (by omega)) (show nI k ≤ (500 : Int32) from nI_le (b := 500) hk2 (by decide)), Option.bind_some, c_isCorrected hC.1 hC.2.2.1 hw, Option.bind_some]
  by_cases q : aCor A w = true
  · rw [if_neg (bI_t q), if_pos q]
    refine zOk.bind (c_copyFrom (v := 1) (v2 := 0) (by decide)) (fun s1 h1 => ?_)
    exact (x_corL hk2 hw hT (k + 1) 0 zK s1 (by omega) (zC_copy hC h1) (fun j hj => absurd hj (Nat.not_lt_zero j)) (zK_lt (by omega))).mono (fun q ⟨a, b⟩ => ⟨a, (zfV.co h1).tr b⟩)
  · rw [if_pos ((bI_0 _).mpr (by simpa using q)), if_neg q]
    exact ⟨_, rfl, rfl, zfV.rf 1 σ⟩
/-- how many know the news that a house tells, behind so many minutes; the best of the first i -/
def bC (A : zAb) (n m k i : Nat) : Nat := fb_ct (fun h => aKn (aPass (aTell A m i 0) n (m + 1) k) h m 0) n
def bE (A : zAb) (n m k : Nat) : Nat → Int32 × Nat
  | 0 => (-1, 0)
  | i + 1 => if bC A n m k i ≤ (bE A n m k i).2 then bE A n m k i else (nI i, bC A n m k i)
theorem bE_le {k : Nat} : ∀ {i : Nat}, (bE A n m k i).2 ≤ n
  | 0 => Nat.zero_le _
  | i + 1 => by
    rw [bE]
    split
    · exact bE_le
    · exact fb_ct_le _ n
theorem x_try {s : zSt} (hC : zC s 0 A n m c T) (hm : m < 20) {k i : Nat} (hk : k ≤ 500) (hT : T + k < 2 ^ 28) (hi : i < n) : zOk (F_Village_copyFrom 1 0 s) (fun s1 => zOk (F_Village_addNews 1 (nI i) 0 s1) (fun q => q.1 = nI m ∧ zOk (F_Village_pass 1 (nI k) q.2) (fun s3 => zfV 1 s s3 ∧ F_Row_get 1 37 (nI m) s3 = some (zm (fun h => aKn (aPass (aTell A m i 0) n (m + 1) k) h m 0) n)))) := by
  obtain ⟨s1, e1, h1⟩ := c_copyFrom (σ := s) (v := 1) (v2 := 0) (by decide)
  have hC1 := zC_copy hC h1
  obtain ⟨⟨r, s2⟩, e2, g1, g2, g3⟩ := c_addNews hC1 hm hi 0
  have g1 : r = nI m := g1
  subst g1
  obtain ⟨s3, e3, g4, g5⟩ := c_pass g2 hT hk
  refine ⟨s1, e1, _, e2, rfl, s3, e3, ((zfV.co h1).tr g3).tr g5, ?_⟩
  rw [r_get37 (by omega), (g4.1.2.2.1 m (by omega)).2.2.2.2.2.2.1]
  rfl
theorem k_best (hC : zC σ 0 A n m c T) (h20 : m < 20) {k : Nat} (hk1 : 1 ≤ k) (hk2 : k ≤ 200) (hT : T + k < 2 ^ 28) : zOk (F_Law_bestAuthor (nI k) σ) (fun q => q.1 = (bE A n m k n).1 ∧ zfV 1 σ q.2) := by
  have hn := hC.hn
  have hm := hC.hm
  rw [F_Law_bestAuthor, F_Waves_bestAuthor, x_in (show ¬ nI k < (1 : Int32) from nI_nlt (b := 1) hk1 (by omega)) (show nI k ≤ (200 : Int32) from nI_le (b := 200) hk2 (by decide)), Option.bind_some, x_fullw σ hC.1.1.2.2.2.2.2.1 hm, if_pos h20, Option.bind_some, if_pos rfl]
  refine z_loopC (fun j i (p : (Int32 × Nat) × zSt) => L_Waves_bestAuthor j 0 (nI k) p.1.1 (nI p.1.2) (nI i) p.2) n 0 (fun i p => p.1 = bE A n m k i ∧ zfV 1 σ p.2) _ (fun i p hi hI2 j kk => ?_) (fun p hI2 j hj => ?_) zK ((-1, 0), σ) (zK_lt (by omega)) ⟨rfl, zfV.rf 1 σ⟩
  · obtain ⟨⟨x, y⟩, st⟩ := p
    obtain ⟨i1, i2⟩ := hI2
    have i1 : (x, y) = bE A n m k i := i1
    have hCs : zC st 0 A n m c T := zC_f1 hC i2
    try dsimp only
    rw [e_Waves_bestAuthor_0, hCs.1.1.2.2.2.2.1, if_neg (nI_ge hi (by omega))]
    refine zOk.bind (x_try hCs h20 (k := k) (i := i) (by omega) (by omega) hi) (fun s1 t2 => ?_)
    refine zOk.bd2 t2 (fun r s2 ⟨t3, t4⟩ => ?_)
    have t3 : r = nI m := t3
    subst t3
    refine zOk.bind t4 (fun s3 ⟨t5, t6⟩ => ?_)
    rw [t6, Option.bind_some, z_bitCount _ (by omega), Option.bind_some]
    have ey : y = (bE A n m k i).2 := by rw [← i1]
    have le1 : y ≤ n := by rw [ey]; exact bE_le
    have le2 : bC A n m k i ≤ n := fb_ct_le _ n
    show zOk (if nI (bC A n m k i) ≤ nI y then _ else _) _
    by_cases z : bC A n m k i ≤ y
    · rw [if_pos (nI_le z (by omega)), nI_1]
      refine kk ((x, y), s3) ⟨?_, i2.tr t5⟩
      show (x, y) = _
      rw [bE, if_pos (by rw [← ey]; exact z), i1]
    · rw [if_neg (nI_ge (by omega) (by omega)), nI_1]
      refine kk ((nI i, bC A n m k i), s3) ⟨?_, i2.tr t5⟩
      show (nI i, bC A n m k i) = _
      rw [bE, if_neg (by rw [← ey]; exact z)]
  · obtain ⟨⟨x, y⟩, st⟩ := p
    obtain ⟨i1, i2⟩ := hI2
    have i1 : (x, y) = bE A n m k n := i1
    have hCs : zC st 0 A n m c T := zC_f1 hC i2
    try dsimp only
    rw [e_Waves_bestAuthor_0, hCs.1.1.2.2.2.2.1, if_pos (nI_le0 (by omega))]
    exact ⟨_, rfl, by rw [← i1], i2⟩
theorem k_best20 (hC : zC σ 0 A n m c T) (h20 : ¬ m < 20) {k : Nat} (hk1 : 1 ≤ k) (hk2 : k ≤ 200) : F_Law_bestAuthor (nI k) σ = some (-1, σ) := by
  rw [F_Law_bestAuthor, F_Waves_bestAuthor, x_in (show ¬ nI k < (1 : Int32) from nI_nlt (b := 1) hk1 (by omega)) (show nI k ≤ (200 : Int32) from nI_le (b := 200) hk2 (by decide)), Option.bind_some, x_fullw σ hC.1.1.2.2.2.2.2.1 hC.hm, if_neg h20, Option.bind_some, if_neg (by decide)]
def zBs (σ : zSt) (t : Nat) : Prop := ¬ ((σ.1 4 70 4 >>> (nI t &&& 31)) &&& 1) = 0
theorem k_save (hC : zC σ 0 A n m c T) {t : Nat} (ht : t < 2) : zOk (F_Law_save (nI t) σ) (fun q => q.1 = 0 ∧ zC q.2 0 A n m c T ∧ zC q.2 (2 + t) A n m c T ∧ zBs q.2 t ∧ (∀ u, u < 2 → zBs σ u → zBs q.2 u) ∧ (∀ g o i, g ≠ 2 + t → ¬ (g = 4 ∧ o = 70 ∧ i = 4) → q.2.1 g o i = σ.1 g o i)) := by
  obtain ⟨s1, e1, h1⟩ := c_copyFrom (σ := σ) (v := 2 + t) (v2 := 0) (by omega)
  have hS := zC_copy hC h1
  have o1 : ∀ g o i, g ≠ 2 + t → s1.1 g o i = σ.1 g o i := h1.2.1
  rw [F_Law_save, F_Waves_save, x_in (nI_pos (by omega)) (show nI t ≤ (1 : Int32) from nI_le (b := 1) (by omega) (by decide)), Option.bind_some, x_slot ht, Option.bind_some, e1, Option.bind_some, F_Waves_bit, Option.bind_some, Option.bind_some]
  have e70 : (zst s1 4 70 4 (s1.1 4 70 4 ||| ((1 : Int32) <<< (nI t &&& 31)))).1 4 70 4 = σ.1 4 70 4 ||| ((1 : Int32) <<< (nI t &&& 31)) := by rw [zst_at, if_pos ⟨rfl, rfl, rfl⟩, o1 4 70 4 (by omega)]
  refine ⟨_, rfl, rfl, zC_fr hC (fun o i => by rw [zst_at, if_neg (by omega)]; exact o1 0 o i (by omega)), zC_fr hS (fun o i => by rw [zst_at, if_neg (by omega)]), ?_, ?_, fun g o i a b => by rw [zst_at, if_neg b]; exact o1 g o i a⟩
  · unfold zBs
    rw [e70]
    intro z
    exact absurd rfl ((z_bitS _ ht ht).mp z).1
  · intro u hu z y
    unfold zBs at z
    rw [e70] at y
    exact z ((z_bitS _ ht hu).mp y).2
theorem k_restore {B : zAb} {n' m' T' t : Nat} {c' : Int32} (ht : t < 2) (hS : zC σ (2 + t) B n' m' c' T') (hb : zBs σ t) : zOk (F_Law_restore (nI t) σ) (fun q => q.1 = 0 ∧ zC q.2 0 B n' m' c' T' ∧ zfV 0 σ q.2) := by
  obtain ⟨s1, e1, h1⟩ := c_copyFrom (σ := σ) (v := 0) (v2 := 2 + t) (by omega)
  have con : F_Waves_contains (σ.1 4 70 4) (nI t) σ = some 1 := by rw [F_Waves_contains, if_neg hb]
  rw [F_Law_restore, F_Waves_restore, x_in (nI_pos (by omega)) (show nI t ≤ (1 : Int32) from nI_le (b := 1) (by omega) (by decide)), Option.bind_some, con, Option.bind_some, if_neg (by decide), x_slot ht, Option.bind_some, e1, Option.bind_some, Option.bind_some]
  exact ⟨_, rfl, rfl, zC_copy hS h1, zfV.co h1⟩
end KD
