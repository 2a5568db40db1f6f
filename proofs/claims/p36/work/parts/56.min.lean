/-! one minute of the law -/
theorem zrest_s {P : Nat → Bool} {s : Nat → Nat} : ∀ {d h : Nat}, zrest P s (d + 1) h = zrest P s d h + (if P (h + d) = true then s (h + d) else 0)
  | 0, h => by simp only [zrest, Nat.add_zero]; omega
  | d + 1, h => by
    have ih := zrest_s (P := P) (s := s) (d := d) (h := h + 1)
    have e1 : zrest P s (d + 1 + 1) h = (if P h = true then s h else 0) + zrest P s (d + 1) (h + 1) := rfl
    have e2 : zrest P s (d + 1) h = (if P h = true then s h else 0) + zrest P s d (h + 1) := rfl
    rw [e1, ih, e2, show h + 1 + d = h + (d + 1) by omega]
    omega
section LM
variable {σ : zSt} {A : zAb} {n m T : Nat} {c : Int32}
theorem mn_0 (hI : aInv A n m T) {k : Nat} (hk : k < 8) : aMin A n m 0 k 0 = A 0 k 0 := by
  rcases aMin_c hI with ⟨-, e⟩ | ⟨D, s, e, I2, eD, -, -, hs, -, ef, hb, em⟩
  · rw [e, aup_i (by omega), aPaid_at (by decide), aBegin_at (Or.inl (by decide))]
  · rw [em, aup_i (by omega), aPaid_at (by decide), aSpk_0 (by omega), eD, aup_i (by omega), aBegin_at (Or.inl (by decide))]
def dn (A : zAb) : Bool := decide (0 < A 0 8 0) && decide (aT A = 0)
theorem dn_at {h : Nat} (hh : h < n) : aBegin A n 1 h 3 = if dn A = true then aBat A h else A 1 h 3 := by
  unfold aBegin dn
  by_cases q : 0 < A 0 8 0 ∧ aT A = 0
  · rw [if_pos q, decide_eq_true q.1, decide_eq_true q.2, if_pos (by decide), aDay, if_pos ⟨rfl, hh, rfl⟩]
  · rw [if_neg q]
    by_cases q1 : 0 < A 0 8 0
    · rw [decide_eq_true q1, decide_eq_false (fun z => q ⟨q1, z⟩), if_neg (by decide)]
    · rw [decide_eq_false q1, Bool.false_and, if_neg (by decide)]
theorem wish_q {h : Nat} (q : aWish (aBegin A n) n m h = true) : aQuiet A h (aT A) = false := by
  unfold aWish at q
  simp only [Bool.and_eq_true, Bool.not_eq_true'] at q
  have z := q.1.1.1
  have e1 : aT (aBegin A n) = aT A := by unfold aT; rw [aBegin_at (Or.inl (by decide)), aBegin_at (Or.inl (by decide))]
  have e2 : aQuiet (aBegin A n) h (aT A) = aQuiet A h (aT A) := by
    unfold aQuiet
    rw [aBegin_at (Or.inr ⟨by decide, by decide⟩), aBegin_at (Or.inr ⟨by decide, by decide⟩)]
  rw [e1, e2] at z
  exact z
/-- what a house adds to the sum of the chances, of S -/
def aSm (A : zAb) (n m : Nat) : Nat := max 1 (aQs A n m)
theorem aQs_le (hI : aInv A n m T) {h : Nat} (hh : h ≤ n) : zrest (aWish (aBegin A n) n m) (aSh A) h 0 ≤ 108 := by
  have hn := hI.1.2.2.1
  have hsh := (aInv_c hI).2.2.2
  have : zrest (aWish (aBegin A n) n m) (aSh A) h 0 ≤ h * 9 := zrest_le (fun i _ b => by have := (hsh i (by omega)).2.2; omega)
  omega
theorem chn_step (hI : aInv A n m T) {h k : Nat} {z : UInt64} (hh : h < n) (hk : k ≤ h) (hz : fI (aSm A n m) (zrest (aWish (aBegin A n) n m) (aSh A) h 0) k z) :
    zn64 (FP.dadd z (aChn A n m h)) = true ∧ ∃ k', k' ≤ h + 1 ∧ fI (aSm A n m) (zrest (aWish (aBegin A n) n m) (aSh A) (h + 1) 0) k' (FP.dadd z (aChn A n m h)) := by
  have hn := hI.1.2.2.1
  have hsh := (aInv_c hI).2.2.2 h hh
  have le1 : aQs A n m ≤ 108 := aQs_le hI (Nat.le_refl n)
  have le2 := aQs_le (m := m) hI (Nat.le_of_lt hh)
  rw [zrest_s, Nat.zero_add]
  unfold aChn
  by_cases q : aWish (aBegin A n) n m h = true
  · have p0 : 0 < aQs A n m := zrest_pos ⟨h, by omega, by omega, q⟩ (fun i _ b => ((aInv_c hI).2.2.2 i (by omega)).2.1)
    have eS : aSm A n m = aQs A n m := Nat.max_eq_right p0
    rw [if_pos q, if_pos q]
    rw [eS] at hz ⊢
    obtain ⟨a, b⟩ := fI_add (a := aSh A h) (by omega) p0 hsh.2.2 hsh.2.1 (by omega) le2 hz
    exact ⟨a, k + 1, by omega, b⟩
  · rw [if_neg q, if_neg q, Nat.add_zero]
    obtain ⟨a, b⟩ := fI_zero hz
    exact ⟨a, k, by omega, b⟩
theorem chn_cmp (hI : aInv A n m T) {h : Nat} (hh : h < n) : (aWish (aBegin A n) n m h = true → ¬ Op.cmpValue (FP.dcmp (aChn A n m h) FP.dconst0) .l ≤ 0) ∧ (aWish (aBegin A n) n m h = false → Op.cmpValue (FP.dcmp (aChn A n m h) FP.dconst0) .l ≤ 0) := by
  have hn := hI.1.2.2.1
  have hsh := (aInv_c hI).2.2.2 h hh
  have le1 : aQs A n m ≤ 108 := aQs_le hI (Nat.le_refl n)
  constructor
  · intro q
    have p0 : 0 < aQs A n m := zrest_pos ⟨h, by omega, by omega, q⟩ (fun i _ b => ((aInv_c hI).2.2.2 i (by omega)).2.1)
    unfold aChn
    rw [if_pos q]
    have := (fq_ok (aSh A h) hsh.2.2 hsh.2.1 (aQs A n m) (by omega) p0).2.2
    unfold fQ at this
    rw [this]
    decide
  · intro q
    unfold aChn
    rw [if_neg (by rw [q]; decide)]
    have : Op.cmpValue (FP.dcmp FP.dconst0 FP.dconst0) .l = 0 := by decide +kernel
    rw [this]
    decide
/-- the first loop: batteries, what is known, chances -/
theorem m_b0 (hC : zC σ 0 A n m c T) (G : zLA) {F : Nat} {N t4 x5 x6 x7 : Int32} {Q : Int32 × zSt → Prop}
    (kk : ∀ τ z k f, zfV 1 σ τ → k ≤ n → fI (aSm A n m) (zrest (aWish (aBegin A n) n m) (aSh A) n 0) k z → F ≤ f →
      zOk (L_Law_minute G f 0 (zm (aWish (aBegin A n) n m) n) N (nI T) t4 x5 x6 x7 (zs (fun h => A 1 h 3) n) (zs (fun h => nI (fb_ct (fun w => aKn A h w 0) m)) n) (zs (fun h => nI (fb_ct (fun w => aKn A h w 1) m)) n) (zs (fun h => aBegin A n 1 h 3 - A 1 h 3) n) z (bI (dn A)) (nI n) 0 0 0 0 0 τ) Q) :
    ∀ d h τ z k f, h + d = n → zfV 1 σ τ → k ≤ h → fI (aSm A n m) (zrest (aWish (aBegin A n) n m) (aSh A) h 0) k z → 3 * d + F ≤ f →
      zOk (L_Law_minute G f 0 (zm (aWish (aBegin A n) n m) n) N (nI T) t4 x5 x6 x7 (zs (fun h => A 1 h 3) h) (zs (fun h => nI (fb_ct (fun w => aKn A h w 0) m)) h) (zs (fun h => nI (fb_ct (fun w => aKn A h w 1) m)) h) (zs (fun h => aBegin A n 1 h 3 - A 1 h 3) h) z (bI (dn A)) (nI h) 0 0 0 0 0 τ) Q := by
  have hn := hC.hn
  have hm := hC.hm
  have hI := hC.2.2.1
  intro d
  induction d with
  | zero =>
    intro h τ z k f hd fr hk hz hf
    have : h = n := by omega
    subst this
    exact kk τ z k f fr hk hz (by omega)
  | succ d ih =>
    intro h τ z k f hd fr hk hz hf
    obtain ⟨f, rfl⟩ : ∃ g, f = g + 3 := ⟨f - 3, by omega⟩
    have hh : h < n := by omega
    have hCt := zC_f1 hC fr
    obtain ⟨nz, k', hk', hz'⟩ := chn_step (m := m) hI hh hk hz
    obtain ⟨c1, c2⟩ := chn_cmp (m := m) hI hh
    -- block 2
    have b2 : ∀ τ2, zfV 1 σ τ2 → ∀ b, b = aWish (aBegin A n) n m h → zOk (L_Law_minute G (f + 1) 2 (zm (aWish (aBegin A n) n m) n) N (nI T) t4 x5 x6 x7 (zs (fun h => A 1 h 3) (h + 1)) (zs (fun h => nI (fb_ct (fun w => aKn A h w 0) m)) (h + 1)) (zs (fun h => nI (fb_ct (fun w => aKn A h w 1) m)) (h + 1)) (zs (fun h => aBegin A n 1 h 3 - A 1 h 3) (h + 1)) z (bI (dn A)) (nI h) 0 (bI b) (bI b) (aChn A n m h) 0 τ2) Q := by
      intro τ2 fr2 b hb
      have hC2 := zC_f1 hC fr2
      have nx := ih (h + 1) τ2 (FP.dadd z (aChn A n m h)) k' f (by omega) fr2 hk' hz' (by omega)
      rw [e_Law_minute_2, if_pos rfl, zm_g1 (by omega) hh, ← hb, nI_1]
      cases b with
      | true =>
        rw [if_pos (show bI true = (1 : Int32) by decide), k_h7 hC2 hh, Option.bind_some, wish_q hb.symm, if_neg (show ¬ bI false = (1 : Int32) by decide), if_pos nz]
        exact nx
      | false =>
        rw [if_neg (show ¬ bI false = (1 : Int32) by decide), if_pos nz]
        exact nx
    -- block 1
    have b1 : ∀ y1, y1 = aBegin A n 1 h 3 - A 1 h 3 → zOk (L_Law_minute G (f + 2) 1 (zm (aWish (aBegin A n) n m) n) N (nI T) t4 x5 x6 x7 (zs (fun h => A 1 h 3) h) (zs (fun h => nI (fb_ct (fun w => aKn A h w 0) m)) h) (zs (fun h => nI (fb_ct (fun w => aKn A h w 1) m)) h) 0 z (bI (dn A)) (nI h) (A 1 h 3) (zs (fun h => aBegin A n 1 h 3 - A 1 h 3) h) y1 0 0 τ) Q := by
      intro y1 ey
      rw [ey, e_Law_minute_1, k_h10 hCt hh, Option.bind_some, z_bitCount _ (by omega), Option.bind_some, k_h11 hCt hh, Option.bind_some, z_bitCount _ (by omega), Option.bind_some]
      refine zOk.bd2 (k_chance hCt hh) (fun r τ2 ⟨g1, g2⟩ => ?_)
      have g1 : r = aChn A n m h := g1
      have g2 : zfV 1 τ τ2 := g2
      rw [g1, zm_g1 (by omega) hh]
      cases q : aWish (aBegin A n) n m h with
      | true =>
        rw [if_neg (c1 q), if_pos (show bI true = (1 : Int32) by decide)]
        exact b2 τ2 (fr.tr g2) true q.symm
      | false =>
        rw [if_pos (c2 q), if_neg (show ¬ bI false = (1 : Int32) by decide)]
        exact b2 τ2 (fr.tr g2) false q.symm
    rw [e_Law_minute_0, k_c6 hCt, Option.bind_some, if_neg (nI_ge hh (by omega)), k_h3 hCt hh, Option.bind_some]
    have ea := dn_at (A := A) hh
    cases q : dn A with
    | false =>
      rw [q] at b1 ea
      rw [if_pos (show bI false = (0 : Int32) by decide)]
      refine b1 0 ?_
      rw [ea, if_neg (by decide)]
      grind
    | true =>
      rw [q] at b1 ea
      rw [if_neg (show ¬ bI true = (0 : Int32) by decide), k_c2 hCt, Option.bind_some]
      refine b1 _ ?_
      rw [ea, if_pos rfl]
      rfl
/-- the last loop -/
theorem m_b7 {M : zAb} {T' : Nat} (hC : zC σ 0 M n m c T') (G : zLA) {N x3 x5 x6 x7 X8 X9 X10 x11 x15 : Int32}
    (fin : ∀ f, L_Law_minute G (f + 1) 7 0 N x3 0 x5 x6 x7 (X8 - zs (fun h => M 1 h 3) n) (X9 - zs (fun h => nI (fb_ct (fun w => aKn M h w 0) m)) n) (X10 - zs (fun h => nI (fb_ct (fun w => aKn M h w 1) m)) n) x11 0 0 x15 0 0 0 0 (nI n) σ = some (1, σ)) :
    ∀ d h f, h + d = n → d + 1 ≤ f → L_Law_minute G f 7 0 N x3 0 x5 x6 x7 (X8 - zs (fun h => M 1 h 3) h) (X9 - zs (fun h => nI (fb_ct (fun w => aKn M h w 0) m)) h) (X10 - zs (fun h => nI (fb_ct (fun w => aKn M h w 1) m)) h) x11 0 0 x15 0 0 0 0 (nI h) σ = some (1, σ) := by
  have hn := hC.hn
  have hm := hC.hm
  intro d
  induction d with
  | zero =>
    intro h f hd hf
    obtain ⟨f, rfl⟩ : ∃ g, f = g + 1 := ⟨f - 1, by omega⟩
    have : h = n := by omega
    subst this
    exact fin f
  | succ d ih =>
    intro h f hd hf
    obtain ⟨f, rfl⟩ : ∃ g, f = g + 1 := ⟨f - 1, by omega⟩
    have hh : h < n := by omega
    have nx := ih (h + 1) f (by omega) (by omega)
    have e : ∀ (g : Nat → Int32) (X : Int32), X - zs g h - g h = X - zs g (h + 1) := fun g X => by rw [zs]; grind
    rw [e_Law_minute_7, k_c6 hC, Option.bind_some, if_neg (nI_ge hh (by omega)), k_h3 hC hh, Option.bind_some, k_h10 hC hh, Option.bind_some, z_bitCount _ (by omega), Option.bind_some, k_h11 hC hh, Option.bind_some, z_bitCount _ (by omega), Option.bind_some, e (fun h => M 1 h 3), e (fun h => nI (fb_ct (fun w => aKn M h w 0) m)), e (fun h => nI (fb_ct (fun w => aKn M h w 1) m)), nI_1]
    exact nx
theorem l_minute (hC : zC σ 0 A n m c T) (hT : T + 1 < 2 ^ 28) (G : zLA) : zOk (F_Law_minute G σ) (fun q => q.1 = 1 ∧ zC q.2 0 (aMin A n m) n m c (T + 1) ∧ zfX σ q.2) := by
  have hn := hC.hn
  have hm := hC.hm
  have hI := hC.2.2.1
  obtain ⟨t0, ht0, et0, -⟩ := hC.2.2.2.2
  rw [F_Law_minute]
  refine zOk.bd2 (k_wishes hC) (fun r1 s1 ⟨g1, f1⟩ => ?_)
  have g1 : r1 = zm (aWish (aBegin A n) n m) n := g1
  have f1 : zfV 1 σ s1 := f1
  rw [g1]
  refine zOk.bd2 (k_next (zC_f1 hC f1)) (fun N s2 ⟨g2, f2⟩ => ?_)
  have g2 : N = aSpe (aBegin A n) n m := g2
  have f2 : zfV 1 s1 s2 := f2
  have F2 := f1.tr f2
  have hC2 := zC_f1 hC F2
  rw [k_c8 hC2, Option.bind_some, k_c10 hC2, Option.bind_some]
  refine zOk.bd2 (k_ahead (k := 1) (t := 3) hC2 (by decide) (by decide) (by decide) hT) (fun x5 s3 ⟨g3, f3⟩ => ?_)
  have g3 : x5 = aMin A n m 13 23 0 - A 13 23 0 := g3
  have f3 : zfV 1 s2 s3 := f3
  have F3 := F2.tr f3
  refine zOk.bd2 (k_ahead (k := 1) (t := 1) (zC_f1 hC F3) (by decide) (by decide) (by decide) hT) (fun x6 s4 ⟨g4, f4⟩ => ?_)
  have g4 : x6 = kS (aMin A n m) 3 n m - kS A 3 n m := g4
  have f4 : zfV 1 s3 s4 := f4
  have F4 := F3.tr f4
  refine zOk.bd2 (k_ahead (k := 1) (t := 2) (zC_f1 hC F4) (by decide) (by decide) (by decide) hT) (fun x7 s5 ⟨g5, f5⟩ => ?_)
  have g5 : x7 = kS (aMin A n m) 4 n m - kS A 4 n m := g5
  have f5 : zfV 1 s4 s5 := f5
  have F5 := F4.tr f5
  have hC5 := zC_f1 hC F5
  have e8 : A 0 8 0 = nI T := hI.2.1.2.1
  have bat := mn_bat hI
  have k3 : zs (fun h => nI (fb_ct (fun w => aKn A h w 0) m)) n = kS A 3 n m := kS_h hI (Or.inl rfl)
  have k4 : zs (fun h => nI (fb_ct (fun w => aKn A h w 1) m)) n = kS A 4 n m := kS_h hI (Or.inr rfl)
  have chg : zs (fun h => aBegin A n 1 h 3 - A 1 h 3) n = zs (fun h => aBegin A n 1 h 3) n - zs (fun h => A 1 h 3) n := (zs_subz _ _ n).symm
  -- behind the first loop
  have main : ∀ τ z k f, zfV 1 σ τ → k ≤ n → fI (aSm A n m) (zrest (aWish (aBegin A n) n m) (aSh A) n 0) k z → 30 ≤ f →
      zOk (L_Law_minute G f 0 (zm (aWish (aBegin A n) n m) n) N (nI T) (A 0 10 0) x5 x6 x7 (zs (fun h => A 1 h 3) n) (zs (fun h => nI (fb_ct (fun w => aKn A h w 0) m)) n) (zs (fun h => nI (fb_ct (fun w => aKn A h w 1) m)) n) (zs (fun h => aBegin A n 1 h 3 - A 1 h 3) n) z (bI (dn A)) (nI n) 0 0 0 0 0 τ) (fun q => q.1 = 1 ∧ zC q.2 0 (aMin A n m) n m c (T + 1) ∧ zfX σ q.2) := by
    intro τ z k f fr hk hz hf
    obtain ⟨f, rfl⟩ : ∃ g, f = g + 5 := ⟨f - 5, by omega⟩
    have hCt := zC_f1 hC fr
    rw [e_Law_minute_0, k_c6 hCt, Option.bind_some, if_pos (nI_le0 (by omega)), g2]
    unfold aSpe
    -- blocks 6 and 7
    have b6 : ∀ (N' x15 y : Int32) τ2, zC τ2 0 (aMin A n m) n m c (T + 1) → zfX σ τ2 → y = aMin A n m 0 10 0 - A 0 10 0 →
        (∀ f, L_Law_minute G (f + 1) 7 0 N' (nI T) 0 x5 x6 x7 (zs (fun h => A 1 h 3) n - zs (fun h => aMin A n m 1 h 3) n) (zs (fun h => nI (fb_ct (fun w => aKn A h w 0) m)) n - zs (fun h => nI (fb_ct (fun w => aKn (aMin A n m) h w 0) m)) n) (zs (fun h => nI (fb_ct (fun w => aKn A h w 1) m)) n - zs (fun h => nI (fb_ct (fun w => aKn (aMin A n m) h w 1) m)) n) (zs (fun h => aBegin A n 1 h 3 - A 1 h 3) n) 0 0 x15 0 0 0 0 (nI n) τ2 = some (1, τ2)) →
        zOk (L_Law_minute G (f + 1) 6 0 N' (nI T) (A 0 10 0) x5 x6 x7 (zs (fun h => A 1 h 3) n) (zs (fun h => nI (fb_ct (fun w => aKn A h w 0) m)) n) (zs (fun h => nI (fb_ct (fun w => aKn A h w 1) m)) n) (zs (fun h => aBegin A n 1 h 3 - A 1 h 3) n) 0 0 x15 y y y 0 0 τ2) (fun q => q.1 = 1 ∧ zC q.2 0 (aMin A n m) n m c (T + 1) ∧ zfX σ q.2) := by
      intro N' x15 y τ2 hC' fr' ey fin
      rw [e_Law_minute_6, if_pos rfl, k_c10 hC', Option.bind_some, if_pos (by rw [ey]; grind), k_c8 hC', Option.bind_some, if_pos (nI_1 T).symm]
      have b7 := m_b7 hC' G (N := N') (x3 := nI T) (x5 := x5) (x6 := x6) (x7 := x7) (X8 := zs (fun h => A 1 h 3) n) (X9 := zs (fun h => nI (fb_ct (fun w => aKn A h w 0) m)) n) (X10 := zs (fun h => nI (fb_ct (fun w => aKn A h w 1) m)) n) (x11 := zs (fun h => aBegin A n 1 h 3 - A 1 h 3) n) (x15 := x15) fin n 0 f (by omega) (by omega)
      have z0 : ∀ (g : Nat → Int32) (X : Int32), X - zs g 0 = X := fun g X => by show X - 0 = X; grind
      rw [z0, z0, z0] at b7
      exact ⟨_, b7, rfl, hC', fr'⟩
    have kM3 : zs (fun h => nI (fb_ct (fun w => aKn (aMin A n m) h w 0) m)) n = kS (aMin A n m) 3 n m ∧ zs (fun h => nI (fb_ct (fun w => aKn (aMin A n m) h w 1) m)) n = kS (aMin A n m) 4 n m := by
      obtain ⟨q, -, -, hq, -⟩ := k_run1 hC hT
      exact ⟨kS_h hq.2.2.1 (Or.inl rfl), kS_h hq.2.2.1 (Or.inr rfl)⟩
    by_cases q : zm (aWish (aBegin A n) n m) n = 0
    · rw [if_pos q, if_pos (show (-1 : Int32) < 0 by decide), if_pos q, e_Law_minute_3, if_pos rfl, if_pos (show (-1 : Int32) < 0 by decide), e_Law_minute_4, if_pos (show (-1 : Int32) < 0 by decide), e_Law_minute_5, if_neg (show ¬ (0 : Int32) ≤ -1 by decide)]
      refine zOk.bd2 (k_run1 hCt hT) (fun y τ2 ⟨h1, h2, h3⟩ => ?_)
      have h1 : y = aMin A n m 0 10 0 - A 0 10 0 := h1
      have h2 : zC τ2 0 (aMin A n m) n m c (T + 1) := h2
      have h3 : zfV 0 τ τ2 := h3
      have y0 : y = 0 := by rw [h1, mn_10 hI, if_pos q]; grind
      rw [if_neg (show ¬ (0 : Int32) ≤ -1 by decide)]
      have b := b6 (-1) 0 y τ2 h2 ((zfX.v1 fr).tr (zfX.v0 h3)) h1 (fun f => by
        rw [e_Law_minute_7, k_c6 h2, Option.bind_some, if_pos (nI_le0 (by omega)), if_pos (by rw [g3, chg]; grind), if_pos (by rw [g4, k3, kM3.1]; grind), if_pos (by rw [g5, k4, kM3.2]; grind), if_neg (show ¬ (0 : Int32) ≤ -1 by decide)])
      rw [y0] at b ⊢
      exact b
    · have hsh := (aInv_c (aInv_begin hI)).2.2.2
      obtain ⟨-, -, hs, gw⟩ := aSpk_in hn hsh q
      obtain ⟨P, R, p0, p1, p4, p5, pr1, pr2, pc1, pc2⟩ := mn_spk hI q
      generalize aSpk (aBegin A n) n m = s at *
      have eS : aSm A n m = aQs A n m := Nat.max_eq_right (zrest_pos ⟨s, by omega, by omega, gw⟩ (fun i _ b => ((aInv_c hI).2.2.2 i (by omega)).2.1))
      have p0S : 0 < aQs A n m := zrest_pos ⟨s, by omega, by omega, gw⟩ (fun i _ b => ((aInv_c hI).2.2.2 i (by omega)).2.1)
      have le1 : aQs A n m ≤ 108 := aQs_le hI (Nat.le_refl n)
      rw [eS] at hz
      obtain ⟨w1, w2⟩ := fI_end (S := aQs A n m) (by omega) p0S (by omega) hz
      rw [if_neg q, if_neg (nI_pos (by omega)), if_neg q, e_Law_minute_3, if_pos rfl, if_neg (nI_pos (by omega)), zm_g1 (by omega) hs, gw, if_neg (show ¬ bI true = (0 : Int32) by decide), e_Law_minute_4, if_neg (nI_pos (by omega)), if_neg w1, if_pos (Int32.not_lt.mp w2), e_Law_minute_5, if_pos (show (0 : Int32) ≤ nI s from nI_le (a := 0) (by omega) (by omega)), k_h14 hCt hs, Option.bind_some]
      refine zOk.bd2 (k_run1 hCt hT) (fun y τ2 ⟨h1, h2, h3⟩ => ?_)
      have h1 : y = aMin A n m 0 10 0 - A 0 10 0 := h1
      have h2 : zC τ2 0 (aMin A n m) n m c (T + 1) := h2
      have h3 : zfV 0 τ τ2 := h3
      have e10 : aMin A n m 0 10 0 = nI (t0 + 1) := by rw [mn_10 hI, if_neg q, et0, nI_1]
      have y1 : y = 1 := by rw [h1, mn_10 hI, if_neg q]; grind
      rw [if_pos (show (0 : Int32) ≤ nI s from nI_le (a := 0) (by omega) (by omega))]
      have b := b6 (nI s) (aNear A n s) y τ2 h2 ((zfX.v1 fr).tr (zfX.v0 h3)) h1 (fun f => by
        rw [e_Law_minute_7, k_c6 h2, Option.bind_some, if_pos (nI_le0 (by omega)), if_pos (by rw [g3, chg]; grind), if_pos (by rw [g4, k3, kM3.1]; grind), if_pos (by rw [g5, k4, kM3.2]; grind), if_pos (show (0 : Int32) ≤ nI s from nI_le (a := 0) (by omega) (by omega))]
        rw [show F_Law_spoken (0 : Int32) (4 : Int32) τ2 = some (zm P n) from (k_spk h2 (k := 4) e10 (by omega) (by omega) (by decide)).trans (by rw [p4]), Option.bind_some, show F_Law_spoken (0 : Int32) (5 : Int32) τ2 = some (zm R n) from (k_spk h2 (k := 5) e10 (by omega) (by omega) (by decide)).trans (by rw [p5]), Option.bind_some, show F_Law_spoken (0 : Int32) (0 : Int32) τ2 = some (nI T) from (k_spk h2 (k := 0) e10 (by omega) (by omega) (by decide)).trans (by rw [p0, e8]), Option.bind_some, if_pos rfl, show F_Law_spoken (0 : Int32) (1 : Int32) τ2 = some (nI s) from (k_spk h2 (k := 1) e10 (by omega) (by omega) (by decide)).trans (by rw [p1]), Option.bind_some, if_pos rfl]
        have n1 : zm P n &&& (aNear A n s ^^^ (-1 : Int32)) = 0 := by
          unfold aNear
          rw [zm_andn (by omega)]
          exact (zm_zero (by omega)).mpr (fun i hi => by
            cases z : P i with
            | false => rfl
            | true => rw [pr1 i z]; rfl)
        have n2 : zm R n &&& (zm P n ^^^ (-1 : Int32)) = 0 := by
          rw [zm_andn (by omega)]
          exact (zm_zero (by omega)).mpr (fun i hi => by
            cases z : R i with
            | false => rfl
            | true => rw [pr2 i z]; rfl)
        rw [if_pos n1, if_pos n2, z_bitCount _ (by omega), Option.bind_some, if_pos (by rw [g4, g5]; exact pc1), k_c0 h2, Option.bind_some, z_bitCount _ (by omega), Option.bind_some, k_c1 h2, Option.bind_some, mn_0 hI (by decide), mn_0 hI (by decide), if_pos (by rw [g3]; exact pc2)])
      rw [y1] at b ⊢
      exact b
  have z0 : fI (aSm A n m) (zrest (aWish (aBegin A n) n m) (aSh A) 0 0) 0 FP.dconst0 := fI_0 _
  have all : ∀ x14, x14 = bI (dn A) → zOk (L_Law_minute G zK 0 (zm (aWish (aBegin A n) n m) n) N (nI T) (A 0 10 0) x5 x6 x7 (0 : Int32) (0 : Int32) (0 : Int32) (0 : Int32) FP.dconst0 x14 (0 : Int32) 0 0 0 0 0 s5) (fun q => q.1 = 1 ∧ zC q.2 0 (aMin A n m) n m c (T + 1) ∧ zfX σ q.2) := by
    intro x14 e14
    rw [e14]
    exact m_b0 hC G (F := 30) main n 0 s5 FP.dconst0 0 zK (by omega) F5 (Nat.le_refl 0) z0 (Nat.le_of_lt (zK_lt (by omega)))
  by_cases q0 : nI T ≤ 0
  · rw [if_pos q0]
    refine all 0 ?_
    have : dn A = false := by
      unfold dn
      rw [e8, decide_eq_false (Int32.not_lt.mpr q0), Bool.false_and]
    rw [this]; rfl
  · obtain ⟨⟨dd, d1, d2, ed⟩, -⟩ := hI.2.1
    have e8' : (0 : Int32) < A 0 8 0 := by rw [e8]; exact Int32.not_le.mp q0
    rw [if_neg q0, k_c5 hC5, Option.bind_some, if_pos (by rw [ed]; exact nI_ne0 (by omega) (by omega))]
    have eT : nI T - nI T / A 0 5 0 * A 0 5 0 = aT A := by unfold aT; rw [e8]
    rw [eT]
    by_cases q1 : aT A = 0
    · rw [if_pos q1]
      refine all 1 ?_
      unfold dn
      rw [decide_eq_true e8', decide_eq_true q1]; rfl
    · rw [if_neg q1]
      refine all 0 ?_
      unfold dn
      rw [decide_eq_false q1, Bool.and_false]; rfl
end LM
