/-! what is foretold comes so -/
section LF
variable {σ : zSt} {A : zAb} {n m T : Nat} {c : Int32}
theorem f_b3 (G : zLA) {K : Nat} {s0 : zSt} {x3 x4 x5 x6 x7 x8 x9 : Int32} {isv : Nat → Int32} {Q : Int32 × zSt → Prop} (hK : K ≤ 100) (hT : T + 300 < 2 ^ 28)
    (st : ∀ i, i < K → (isv i = -1 → ∃ w, w < m ∧ x3 = nI w ∧ isv (i + 1) = (if zm (fun h => aKn (aPass A n m (i + 1)) h w 2) n = 0 then nI (i + 1) else -1)) ∧ (¬ isv i = -1 → isv (i + 1) = isv i))
    (fin : ∀ τ f, zC τ 0 (aPass A n m K) n m c (T + K) → (∀ g o u, g ≠ 0 → τ.1 g o u = s0.1 g o u) → 3 ≤ f → zOk (L_Law_foretells G f 3 (nI K) 0 x3 x4 x5 x6 x7 x8 x9 (isv K) (nI (K + 1)) τ) Q) :
    ∀ d i τ f, i + d = K → zC τ 0 (aPass A n m i) n m c (T + i) → (∀ g o u, g ≠ 0 → τ.1 g o u = s0.1 g o u) → d + 3 ≤ f → zOk (L_Law_foretells G f 3 (nI K) 0 x3 x4 x5 x6 x7 x8 x9 (isv i) (nI (i + 1)) τ) Q := by
  intro d
  induction d with
  | zero =>
    intro i τ f hd hC fr hf
    have : i = K := by omega
    subst this
    exact fin τ f hC fr (by omega)
  | succ d ih =>
    intro i τ f hd hC fr hf
    obtain ⟨f, rfl⟩ : ∃ g, f = g + 1 := ⟨f - 1, by omega⟩
    have hn := hC.hn
    rw [e_Law_foretells_3, if_neg (nI_nlt (show i + 1 ≤ K by omega) (by omega))]
    refine zOk.bd2 (k_run1 hC (by omega)) (fun y τ2 ⟨h1, h2, h3⟩ => ?_)
    have h1 : y = aMin (aPass A n m i) n m 0 10 0 - aPass A n m i 0 10 0 := h1
    have h2 : zC τ2 0 (aPass A n m (i + 1)) n m c (T + (i + 1)) := h2
    have h3 : zfV 0 τ τ2 := h3
    have y0 : (0 : Int32) ≤ y := by
      have e := mn_10 hC.2.2.1
      rw [h1, e]
      by_cases q : zm (aWish (aBegin (aPass A n m i) n) n m) n = 0
      · rw [if_pos q, show aPass A n m i 0 10 0 + 0 - aPass A n m i 0 10 0 = 0 by grind]; decide
      · rw [if_neg q, show aPass A n m i 0 10 0 + 1 - aPass A n m i 0 10 0 = 1 by grind]; decide
    have fr2 : ∀ g o u, g ≠ 0 → τ2.1 g o u = s0.1 g o u := fun g o u hg => (h3.1 g o u hg).trans (fr g o u hg)
    have nx := ih (i + 1) τ2 f (by omega) h2 fr2 (by omega)
    rw [if_pos y0, nI_1]
    obtain ⟨st1, st2⟩ := st i (by omega)
    by_cases q : isv i = -1
    · obtain ⟨w, hw, ew, es⟩ := st1 q
      rw [if_pos q]
      rw [es] at nx
      have k8 : F_Law_news x3 (8 : Int32) τ2 = some (zm (fun h => aKn (aPass A n m (i + 1)) h w 2) n) := by rw [ew]; exact k_w8 h2 hw
      rw [k8, Option.bind_some]
      by_cases z : zm (fun h => aKn (aPass A n m (i + 1)) h w 2) n = 0
      · rw [if_pos z]
        rw [if_pos z] at nx
        exact nx
      · rw [if_neg z, q]
        rw [if_neg z] at nx
        exact nx
    · rw [if_neg q]
      rw [st2 q] at nx
      exact nx
/-- the last block: the saved state comes back -/
theorem f_b4 (G : zLA) {s0 τ : zSt} {k f : Nat} (hA : A 0 10 0 = A 0 10 0) (hS : zC s0 3 A n m c T) (hB : zBs s0 1) (hD : zD2 s0 k) (fr : ∀ g o u, g ≠ 0 → τ.1 g o u = s0.1 g o u) :
    zOk (L_Law_foretells G (f + 1) 4 0 (1 : Int32) 0 0 (A 0 10 0) (A 0 9 0) 0 0 0 0 0 τ) (fun q => q.1 = 1 ∧ zC q.2 0 A n m c T ∧ zD2 q.2 k) := by
  have hSt : zC τ (2 + 1) A n m c T := zC_fr hS (fun o u => fr 3 o u (by decide))
  have hBt : zBs τ 1 := by unfold zBs; rw [fr 4 70 4 (by decide)]; exact hB
  have hDt : zD2 τ k := ⟨by rw [fr 4 80 1 (by decide)]; exact hD.1, by rw [fr 4 80 2 (by decide)]; exact hD.2⟩
  rw [e_Law_foretells_4, if_neg (show ¬ (1 : Int32) = 0 by decide)]
  refine zOk.bd2 (k_restore (t := 1) (by decide) hSt hBt) (fun r s6 ⟨d1, d2, d3⟩ => ?_)
  have d1 : r = 0 := d1
  have d2 : zC s6 0 A n m c T := d2
  have d3 : zfV 0 τ s6 := d3
  rw [if_pos d1, k_c9 d2, Option.bind_some, if_pos rfl, k_c10 d2, Option.bind_some, if_pos rfl]
  exact ⟨_, rfl, rfl, d2, hDt.v d3 (by decide)⟩
theorem cG_cases (P : Nat → Bool) : ∀ i, cG P i = -1 ∨ ∃ j, j ≤ i ∧ cG P i = nI j
  | 0 => by
    rw [cG]
    by_cases q : P 0 = true
    · rw [if_pos q]; exact Or.inr ⟨0, Nat.le_refl 0, rfl⟩
    · rw [if_neg q]; exact Or.inl rfl
  | i + 1 => by
    rw [cG]
    by_cases q : cG P i = -1
    · rw [if_pos q]
      by_cases z : P (i + 1) = true
      · rw [if_pos z]; exact Or.inr ⟨i + 1, Nat.le_refl _, rfl⟩
      · rw [if_neg z]; exact Or.inl rfl
    · rw [if_neg q]
      rcases cG_cases P i with y | ⟨j, hj, y⟩
      · exact absurd y q
      · exact Or.inr ⟨j, by omega, y⟩
theorem f_max {P : Nat → Bool} {i : Nat} (hi : i < 2 ^ 30) : cG P i = (if (-1 : Int32) < cG P i then cG P i else (-1 : Int32)) := by
  rcases cG_cases P i with y | ⟨j, hj, y⟩
  · rw [y, if_neg (by decide)]
  · rw [y, if_pos (by
      rw [Int32.lt_iff_toInt_lt, nI_toInt (by omega)]
      have : (-1 : Int32).toInt = -1 := by decide
      omega)]
theorem l_foretells {k : Nat} (hW : zW σ A n m T k) (hk : k < 2 ^ 20) (hT : T + 300 < 2 ^ 28) (G : zLA) (hL : zLn G ≤ 260) : zOk (F_Law_foretells G σ) (fun q => q.1 = 1 ∧ ∃ k', k' ≤ k + 2 ∧ zW q.2 A n m T k') := by
  obtain ⟨c, hC⟩ := hW.1
  have hn := hC.hn
  have hm := hC.hm
  have hO := hW.2.1
  -- behind the draws: without a news
  have none_ : ∀ K s k', 1 ≤ K → K ≤ 90 → zW s A n m T k' → k' ≤ k + 2 → zOk (L_Law_foretells G zK 0 (nI K) (-1 : Int32) 0 0 0 0 0 0 0 0 0 s) (fun q => q.1 = 1 ∧ ∃ k', k' ≤ k + 2 ∧ zW q.2 A n m T k') := by
    intro K s k' h1 h2 hW' hk'
    obtain ⟨⟨c, hC⟩, -, hD⟩ := hW'
    obtain ⟨f, ef⟩ : ∃ f, zK = f + 3 := ⟨99997, rfl⟩
    have f100 : 99000 ≤ f := by have : zK = 100000 := rfl; omega
    rw [ef, e_Law_foretells_0]
    refine zOk.bd2 (k_ahead (k := K) (t := 0) hC h1 (by omega) (by decide) (by omega)) (fun x4 s1 ⟨g1, f1⟩ => ?_)
    have g1 : x4 = aPass A n m K 0 10 0 - A 0 10 0 := g1
    have f1 : zfV 1 s s1 := f1
    have hC1 := zC_f1 hC f1
    rw [k_c10 hC1, Option.bind_some, k_c9 hC1, Option.bind_some, if_neg (show ¬ (0 : Int32) ≤ -1 by decide), e_Law_foretells_1, if_neg (show ¬ (0 : Int32) ≤ -1 by decide), if_neg (show ¬ (0 : Int32) ≤ -1 by decide), e_Law_foretells_2, if_pos (show (-1 : Int32) < 0 by decide)]
    refine zOk.bd2 (k_save (t := 1) hC1 (by decide)) (fun r s2 ⟨a1, a2, a3, a4, _, a5⟩ => ?_)
    have a1 : r = 0 := a1
    have a2 : zC s2 0 A n m c T := a2
    have a3 : zC s2 3 A n m c T := a3
    have a4 : zBs s2 1 := a4
    have hD2 : zD2 s2 k' := ⟨by rw [a5 4 80 1 (by decide) (by omega)]; exact (hD.v f1 (by decide)).1, by rw [a5 4 80 2 (by decide) (by omega)]; exact (hD.v f1 (by decide)).2⟩
    rw [if_pos a1]
    refine f_b3 (isv := fun _ => -2) G (s0 := s2) (K := K) (by omega) hT (fun i _ => ⟨fun z => absurd z (by decide), fun _ => rfl⟩) (fun τ f hCt fr hf => ?_) K 0 s2 f (by omega) a2 (fun _ _ _ _ => rfl) (by omega)
    obtain ⟨f, rfl⟩ : ∃ g, f = g + 2 := ⟨f - 2, by omega⟩
    rw [e_Law_foretells_3, if_pos (nI_lt (show K < K + 1 by omega) (by omega)), k_c10 hCt, Option.bind_some, if_pos (by rw [g1]; grind), if_pos (show (-1 : Int32) < 0 by decide), if_pos (by decide)]
    exact (f_b4 G rfl a3 a4 hD2 fr).mono (fun q ⟨x, y, z⟩ => ⟨x, k', hk', ⟨c, y⟩, hO, z⟩)
  -- with a news
  have one_ : ∀ K w s k', 1 ≤ K → K ≤ 90 → w < m → zW s A n m T k' → k' ≤ k + 2 → zOk (L_Law_foretells G zK 0 (nI K) (nI w) 0 0 0 0 0 0 0 0 0 s) (fun q => q.1 = 1 ∧ ∃ k', k' ≤ k + 2 ∧ zW q.2 A n m T k') := by
    intro K w s k' h1 h2 hw hW' hk'
    obtain ⟨⟨c, hC⟩, -, hD⟩ := hW'
    obtain ⟨f, ef⟩ : ∃ f, zK = f + 3 := ⟨99997, rfl⟩
    have f100 : 99000 ≤ f := by have : zK = 100000 := rfl; omega
    have w0 : (0 : Int32) ≤ nI w := nI_le (a := 0) (by omega) (by omega)
    rw [ef, e_Law_foretells_0]
    refine zOk.bd2 (k_ahead (k := K) (t := 0) hC h1 (by omega) (by decide) (by omega)) (fun x4 s1 ⟨g1, f1⟩ => ?_)
    have g1 : x4 = aPass A n m K 0 10 0 - A 0 10 0 := g1
    have f1 : zfV 1 s s1 := f1
    have hC1 := zC_f1 hC f1
    rw [k_c10 hC1, Option.bind_some, k_c9 hC1, Option.bind_some, if_pos w0]
    refine zOk.bd2 (k_reached (k := K) (t := 0) hC1 hw h1 (by omega) (by decide) (by omega)) (fun x7 s2 ⟨g2, f2⟩ => ?_)
    have g2 : x7 = nI (fb_ct (fun h => aKn (aPass A n m K) h w 0) n) := g2
    have f2 : zfV 1 s1 s2 := f2
    have hC2 := zC_f1 hC1 f2
    rw [e_Law_foretells_1, if_pos w0]
    refine zOk.bd2 (k_reached (k := K) (t := 1) hC2 hw h1 (by omega) (by decide) (by omega)) (fun x8 s3 ⟨g3, f3⟩ => ?_)
    have g3 : x8 = nI (fb_ct (fun h => aKn (aPass A n m K) h w 1) n) := g3
    have f3 : zfV 1 s2 s3 := f3
    have hC3 := zC_f1 hC2 f3
    rw [if_pos w0]
    refine zOk.bd2 (k_corIn (k := K) hC3 hw h1 (by omega) (by omega)) (fun x9 s4 ⟨g4, f4⟩ => ?_)
    have g4 : x9 = (if aCor A w = true then cG (cUn A n m w) K else -1) := g4
    have f4 : zfV 1 s3 s4 := f4
    have hC4 := zC_f1 hC3 f4
    have hD4 := (((hD.v f1 (by decide)).v f2 (by decide)).v f3 (by decide)).v f4 (by decide)
    -- the loop and the end, for the values that it counts
    have loop : ∀ isv : Nat → Int32, (∀ i, i < K → (isv i = -1 → ∃ w', w' < m ∧ nI w = nI w' ∧ isv (i + 1) = (if zm (fun h => aKn (aPass A n m (i + 1)) h w' 2) n = 0 then nI (i + 1) else -1)) ∧ (¬ isv i = -1 → isv (i + 1) = isv i)) → x9 = (if (-1 : Int32) < isv K then isv K else (-1 : Int32)) →
        zOk (bd2 (F_Law_save (1 : Int32) s4) fun r42 σ43 => if r42 = 0 then L_Law_foretells G f 3 (nI K) 0 (nI w) x4 (A 0 10 0) (A 0 9 0) x7 x8 x9 (isv 0) (1 : Int32) σ43 else some ((0 : Int32), σ43)) (fun q => q.1 = 1 ∧ ∃ k', k' ≤ k + 2 ∧ zW q.2 A n m T k') := by
      intro isv st ex
      refine zOk.bd2 (k_save (t := 1) hC4 (by decide)) (fun r s5 ⟨a1, a2, a3, a4, _, a5⟩ => ?_)
      have a1 : r = 0 := a1
      have a2 : zC s5 0 A n m c T := a2
      have a3 : zC s5 3 A n m c T := a3
      have a4 : zBs s5 1 := a4
      have hD5 : zD2 s5 k' := ⟨by rw [a5 4 80 1 (by decide) (by omega)]; exact hD4.1, by rw [a5 4 80 2 (by decide) (by omega)]; exact hD4.2⟩
      rw [if_pos a1]
      refine f_b3 (isv := isv) G (s0 := s5) (K := K) (by omega) hT st (fun τ f hCt fr hf => ?_) K 0 s5 f (by omega) a2 (fun _ _ _ _ => rfl) (by omega)
      obtain ⟨f, rfl⟩ : ∃ g, f = g + 2 := ⟨f - 2, by omega⟩
      rw [e_Law_foretells_3, if_pos (nI_lt (show K < K + 1 by omega) (by omega)), k_c10 hCt, Option.bind_some, if_pos (by rw [g1]; grind), if_neg (nI_pos (by omega)), k_w6 hCt hw, Option.bind_some, z_bitCount _ (by omega), Option.bind_some, if_pos (by rw [g2]; rfl), k_w7 hCt hw, Option.bind_some, z_bitCount _ (by omega), Option.bind_some, if_pos (by rw [g3]; rfl), if_pos ex]
      exact (f_b4 G rfl a3 a4 hD5 fr).mono (fun q ⟨x, y, z⟩ => ⟨x, k', hk', ⟨c, y⟩, hO, z⟩)
    rw [e_Law_foretells_2, if_neg (nI_pos (by omega)), k_w4 hC4 hw, Option.bind_some]
    rcases aW24 hC.2.2.1 hO hw with ⟨y, -⟩ | ⟨u, hu, y, -⟩
    · have co : aCor A w = false := by unfold aCor; rw [decide_eq_true y]; rfl
      rw [y, if_neg (show ¬ (0 : Int32) ≤ -1 by decide)]
      refine loop (fun _ => -2) (fun i _ => ⟨fun z => absurd z (by decide), fun _ => rfl⟩) ?_
      rw [g4, co, if_neg (by decide), if_neg (by decide)]
    · have co : aCor A w = true := by unfold aCor; rw [y, decide_eq_false (nI_m1 (by omega))]; rfl
      rw [y, if_pos (show (0 : Int32) ≤ nI u from nI_le (a := 0) (by omega) (by omega)), k_w8 hC4 hw, Option.bind_some]
      have lp := loop (cG (cUn A n m w)) (fun i _ => ⟨fun z => ⟨w, hw, rfl, by
        rw [cG, if_pos z]
        unfold cUn
        by_cases x : zm (fun h => aKn (aPass A n m (i + 1)) h w 2) n = 0
        · rw [if_pos (decide_eq_true x), if_pos x]
        · rw [if_neg (by rw [decide_eq_false x]; decide), if_neg x]⟩, fun z => by rw [cG, if_neg z]⟩) (by rw [g4, co, if_pos rfl]; exact f_max (by omega))
      have e0 : cG (cUn A n m w) 0 = if zm (fun h => aKn A h w 2) n = 0 then 0 else -1 := by
        rw [cG]
        unfold cUn
        have ea : aPass A n m 0 = A := rfl
        rw [ea]
        by_cases x : zm (fun h => aKn A h w 2) n = 0
        · rw [if_pos (decide_eq_true x), if_pos x]
        · rw [if_neg (by rw [decide_eq_false x]; decide), if_neg x]
      rw [e0] at lp
      by_cases x : zm (fun h => aKn A h w 2) n = 0
      · rw [if_pos x]
        rw [if_pos x] at lp
        exact lp
      · rw [if_neg x]
        rw [if_neg x] at lp
        exact lp
  rw [F_Law_foretells]
  refine zOk.bd2 (l_draw G hL (n := 90) hW.2.2 (by omega) (by decide) (by decide)) (fun r2 s3 ⟨⟨j, hj, e2⟩, e3⟩ => ?_)
  have e2 : r2 = nI j := e2
  have e3 : s3 = zst σ 4 80 2 (nI (k + 1)) := e3
  have W3 : zW s3 A n m T (k + 1) := by rw [e3]; exact hW.d
  obtain ⟨c3, hC3⟩ := W3.1
  have ea : (1 : Int32) + nI j = nI (1 + j) := by show nI 1 + nI j = _; rw [nI_add]
  rw [e2, ea, k_c7 hC3, Option.bind_some]
  by_cases qm : nI m = 0
  · rw [if_pos qm]
    exact none_ (1 + j) s3 (k + 1) (by omega) (by omega) W3 (by omega)
  · rw [if_neg qm]
    have hm0 : 0 < m := by
      rcases Nat.eq_zero_or_pos m with z | z
      · rw [z] at qm; exact absurd rfl qm
      · exact z
    refine zOk.bd2 (l_draw G hL (n := m) W3.2.2 (by omega) hm0 (by omega)) (fun r7 s8 ⟨⟨w, hw, e7⟩, e8⟩ => ?_)
    have e7 : r7 = nI w := e7
    have e8 : s8 = zst s3 4 80 2 (nI (k + 1 + 1)) := e8
    have W8 : zW s8 A n m T (k + 1 + 1) := by rw [e8]; exact W3.d
    rw [e7]
    exact one_ (1 + j) w s8 (k + 1 + 1) (by omega) (by omega) hw W8 (by omega)
end LF
