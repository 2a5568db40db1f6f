/-! authors tried by hand; a news, a correction -/
def zW (σ : zSt) (A : zAb) (n m T k : Nat) : Prop := (∃ c, zC σ 0 A n m c T) ∧ aOk A n m T ∧ zD2 σ k
section LT
variable {σ : zSt} {A : zAb} {n m T k : Nat}
theorem l_tries (hW : zW σ A n m T k) (hk : k < 2 ^ 20) (hT : T + 300 < 2 ^ 28) (G : zLA) (hL : zLn G ≤ 260) : zOk (F_Law_tries G σ) (fun q => q.1 = 1 ∧ zW q.2 A n m T (k + 1)) := by
  obtain ⟨⟨c, hC⟩, hO, hD⟩ := hW
  have hn := hC.hn
  have hm := hC.hm
  rw [F_Law_tries]
  refine zOk.bd2 (l_draw G hL (n := 12) hD (by omega) (by decide) (by decide)) (fun r2 s3 ⟨⟨j, hj, e2⟩, e3⟩ => ?_)
  have e2 : r2 = nI j := e2
  have e3 : s3 = zst σ 4 80 2 (nI (k + 1)) := e3
  have hC3 : zC s3 0 A n m c T := by rw [e3]; exact zC_d hC (by decide)
  have hD3 : zD2 s3 (k + 1) := by rw [e3]; exact hD.d
  have ea : (1 : Int32) + nI j = nI (1 + j) := by show nI 1 + nI j = _; rw [nI_add]
  rw [e2, ea]
  generalize hK : 1 + j = K
  by_cases h20 : m < 20
  · refine zOk.bd2 (k_best hC3 h20 (k := K) (by omega) (by omega) (by omega)) (fun r5 s4 ⟨g5, f4⟩ => ?_)
    have g5 : r5 = (bE A n m K n).1 := g5
    have f4 : zfV 1 s3 s4 := f4
    have hC4 := zC_f1 hC3 f4
    have hD4 := hD3.v f4 (by decide)
    rw [k_c7 hC4, Option.bind_some, if_neg (show ¬ nI m = (20 : Int32) from fun z => by have := (nI_eq (a := m) (b := 20) (by omega) (by decide)).mp z; omega)]
    refine z_loopC (fun j i (p : (Int32 × Nat) × zSt) => L_Law_tries G j 0 (nI K) r5 p.1.1 (nI p.1.2) (nI i) p.2) n 0 (fun i p => p.1 = bE A n m K i ∧ zC p.2 0 A n m c T ∧ zD2 p.2 (k + 1)) _ (fun i p hi hI2 f kk => ?_) (fun p hI2 f hf => ?_) zK ((-1, 0), s4) (zK_lt (by omega)) ⟨rfl, hC4, hD4⟩
    · obtain ⟨⟨x, y⟩, τ⟩ := p
      obtain ⟨i1, i2, i3⟩ := hI2
      have i1 : (x, y) = bE A n m K i := i1
      have i2 : zC τ 0 A n m c T := i2
      have i3 : zD2 τ (k + 1) := i3
      try dsimp only
      rw [e_Law_tries_0, k_c6 i2, Option.bind_some, if_neg (nI_ge hi (by omega))]
      refine zOk.bd2 (k_save (t := 0) i2 (by decide)) (fun r15 s1 ⟨a1, a2, a3, a4, _, a5⟩ => ?_)
      have a1 : r15 = 0 := a1
      have a2 : zC s1 0 A n m c T := a2
      have a3 : zC s1 2 A n m c T := a3
      have a4 : zBs s1 0 := a4
      rw [if_pos a1]
      refine zOk.bd2 (k_tell (b := 0) a2 h20 hi (by decide)) (fun r18 s2 ⟨b1, b2, b3⟩ => ?_)
      have b1 : r18 = nI m := b1
      have b2 : zC s2 0 (aTell A m i 0) n (m + 1) c T := b2
      have b3 : zfV 0 s1 s2 := b3
      rw [b1]
      refine zOk.bd2 (k_reached (t := 0) b2 (w := m) (k := K) (by omega) (by omega) (by omega) (by decide) (by omega)) (fun r21 s5 ⟨c1, c2⟩ => ?_)
      have c1 : r21 = nI (bC A n m K i) := c1
      have c2 : zfV 1 s2 s5 := c2
      rw [c1]
      have f25 : ∀ g o u, g ≠ 0 → g ≠ 1 → s5.1 g o u = s1.1 g o u := fun g o u x y => (c2.1 g o u y).trans (b3.1 g o u x)
      have hS5 : zC s5 (2 + 0) A n m c T := zC_fr a3 (fun o u => f25 2 o u (by decide) (by decide))
      have hB5 : zBs s5 0 := by unfold zBs; rw [f25 4 70 4 (by decide) (by decide)]; exact a4
      have hD5 : zD2 s5 (k + 1) := ⟨by rw [f25 4 80 1 (by decide) (by decide), a5 4 80 1 (by decide) (by omega)]; exact i3.1, by rw [f25 4 80 2 (by decide) (by decide), a5 4 80 2 (by decide) (by omega)]; exact i3.2⟩
      have ey : y = (bE A n m K i).2 := by rw [← i1]
      have le1 : y ≤ n := by rw [ey]; exact bE_le
      have le2 : bC A n m K i ≤ n := fb_ct_le _ n
      by_cases z : bC A n m K i ≤ y
      · rw [if_pos (nI_le z (by omega))]
        refine zOk.bd2 (k_restore (t := 0) (by decide) hS5 hB5) (fun r24 s6 ⟨d1, d2, d3⟩ => ?_)
        have d1 : r24 = 0 := d1
        have d3 : zfV 0 s5 s6 := d3
        rw [if_pos d1, if_neg (nI_nlt z (by omega)), nI_1]
        refine kk ((x, y), s6) ⟨?_, d2, hD5.v d3 (by decide)⟩
        show (x, y) = _
        rw [bE, if_pos (by rw [← ey]; exact z), i1]
      · rw [if_neg (nI_ge (by omega) (by omega))]
        refine zOk.bd2 (k_restore (t := 0) (by decide) hS5 hB5) (fun r24 s6 ⟨d1, d2, d3⟩ => ?_)
        have d1 : r24 = 0 := d1
        have d3 : zfV 0 s5 s6 := d3
        rw [if_pos d1, if_pos (nI_lt (by omega) (by omega)), nI_1]
        refine kk ((nI i, bC A n m K i), s6) ⟨?_, d2, hD5.v d3 (by decide)⟩
        show (nI i, bC A n m K i) = _
        rw [bE, if_neg (by rw [← ey]; exact z)]
    · obtain ⟨⟨x, y⟩, τ⟩ := p
      obtain ⟨i1, i2, i3⟩ := hI2
      have i1 : (x, y) = bE A n m K n := i1
      have i2 : zC τ 0 A n m c T := i2
      try dsimp only
      rw [e_Law_tries_0, k_c6 i2, Option.bind_some, if_pos (nI_le0 (by omega)), if_pos (show x = r5 by rw [g5, ← i1])]
      exact ⟨_, rfl, rfl, ⟨c, i2⟩, hO, i3⟩
  · have m20 : m = 20 := by omega
    refine zOk.bd2 (zOk.of (k_best20 hC3 h20 (k := K) (by omega) (by omega)) (P := fun q => q = (-1, s3)) rfl) (fun r5 s4 e => ?_)
    obtain ⟨e1, e2⟩ := Prod.mk.inj e
    rw [e1, e2, k_c7 hC3, Option.bind_some, if_pos (show nI m = (20 : Int32) by rw [m20]; rfl), if_pos rfl]
    exact ⟨_, rfl, rfl, ⟨c, hC3⟩, hO, hD3⟩
theorem aInv_co (hI : aInv A n m T) {h w : Nat} (hh : h < n) {body : Int32} : aInv (aCo A h w body) n m T := by
  have hn := hI.1.2.2.1
  have e : ∀ f i j, f ≠ 2 → aCo A h w body f i j = A f i j := fun f i j q => by unfold aCo; rw [aup_f q, aup_f q, aup_f q]
  refine ⟨zSz_cg (fun k _ => e 0 k 0 (by decide)) hI.1, aSc_cg (fun k _ => e 0 k 0 (by decide)) hI.2.1, fun i hi => aHf_cg (fun k _ => e 1 i k (by decide)) (hI.2.2.1 i hi), fun j hj q i hi => ?_, fun i j hi hj => aPf_cg (fun f a b => e f i j (by omega)) (hI.2.2.2.2 i j hi hj)⟩
  rw [e 4 i j (by decide)]
  by_cases y : j = w
  · subst y
    have : aCo A h j body 2 j 4 = nI h := by unfold aCo; rw [aup_j (by decide), aup_s]
    rw [this] at q
    exact absurd q (nI_m1 (by omega))
  · have : aCo A h w body 2 j 4 = A 2 j 4 := by unfold aCo; rw [aup_i y, aup_i y, aup_i y]
    rw [this] at q
    exact hI.2.2.2.1 j hj q i hi
theorem l_says43 (hW : zW σ A n m T k) (G : zLA) {h b : Nat} (hh : h < n) (hb : b < 100) : zOk (B_Law_says_43 G (nI h) (nI m) (nI b) σ) (fun q => q.1 = 1 ∧ ∃ A' m', zW q.2 A' n m' T k) := by
  obtain ⟨⟨c, hC⟩, hO, hD⟩ := hW
  have hn := hC.hn
  have hm := hC.hm
  have hI := hC.2.2.1
  rw [B_Law_says_43, k_h13 hC hh, Option.bind_some]
  by_cases h20 : m < 20
  · refine zOk.bd2 (k_tell hC h20 hh hb) (fun r s1 ⟨g1, g2, g3⟩ => ?_)
    have g1 : r = nI m := g1
    have g2 : zC s1 0 (aTell A m h (nI b)) n (m + 1) c T := g2
    have g3 : zfV 0 σ s1 := g3
    rw [if_neg (show ¬ nI m = (20 : Int32) from fun z => by have := (nI_eq (a := m) (b := 20) (by omega) (by decide)).mp z; omega), if_pos g1, k_w2 g2 (show m < m + 1 by omega), Option.bind_some, if_pos (by rw [aTell_s (by decide)]; rfl), k_w6 g2 (show m < m + 1 by omega), Option.bind_some]
    have e1 : zm (fun i => decide (aTell A m h (nI b) 3 i m = 1)) n = (1 : Int32) <<< (nI h &&& 31) := by
      rw [zm_bit (by omega) hh]
      refine zm_congr (fun i hi => ?_)
      rw [aTell_p (by decide) (by decide) (by omega)]
      by_cases q : i = h <;> simp [q]
    rw [if_pos e1, k_h13 g2 hh, Option.bind_some]
    have op : ∀ f w, f = 7 ∨ f = 10 → w < m → aTell A m h (nI b) f h w = A f h w := fun f w q hw => aTell_at (Or.inr (Or.inr (Or.inr (Or.inr (Or.inr ⟨by omega, by omega, by omega⟩)))))
    have eN : aNq (aTell A m h (nI b)) (m + 1) h = aNq A m h + 1 := by
      unfold aNq
      rw [fb_ct_succ, fb_ct_cong (q := fun w => decide (A 7 h w = 1)) (fun w hw => by rw [op 7 w (by decide) hw]), if_pos (show decide (aTell A m h (nI b) 7 h m = 1) = true by rw [aTell_p (by decide) (by decide) (by omega), if_neg (fun z => absurd z.2 (by decide)), if_pos ⟨rfl, rfl⟩]; rfl)]
    have eC : aCq (aTell A m h (nI b)) (m + 1) h = aCq A m h := by
      unfold aCq
      rw [fb_ct_succ, fb_ct_cong (q := fun w => decide (A 10 h w = 1)) (fun w hw => by rw [op 10 w (by decide) hw]), if_neg (show ¬ decide (aTell A m h (nI b) 10 h m = 1) = true by rw [aTell_p (by decide) (by decide) (by omega), if_neg (fun z => absurd z.2 (by decide)), if_neg (fun z => absurd z.2 (by decide)), if_neg (fun z => absurd z.2 (by decide)), if_neg (by decide)]; decide), Nat.add_zero]
    rw [if_pos (by rw [eN, eC, nI_1]; congr 1; omega)]
    exact ⟨_, rfl, rfl, _, _, ⟨c, g2⟩, aOk_tell hI hO h20 hh, hD.v g3 (by decide)⟩
  · have m20 : m = 20 := by omega
    refine zOk.bd2 (zOk.of (k_tell20 hC h20 hh hb) (P := fun q => q = (-2, σ)) rfl) (fun r s1 e => ?_)
    obtain ⟨e1, e2⟩ := Prod.mk.inj e
    rw [e1, e2, if_pos (show nI m = (20 : Int32) by rw [m20]; rfl), if_pos rfl, k_h13 hC hh, Option.bind_some, if_pos rfl]
    exact ⟨_, rfl, rfl, A, m, ⟨c, hC⟩, hO, hD⟩
theorem zW.d (hW : zW σ A n m T k) : zW (zst σ 4 80 2 (nI (k + 1))) A n m T (k + 1) := by
  obtain ⟨⟨c, hC⟩, hO, hD⟩ := hW
  exact ⟨⟨c, zC_d hC (by decide)⟩, hO, hD.d⟩
theorem l_says (hW : zW σ A n m T k) (hk : k < 2 ^ 20) (h0 : 0 < n) (G : zLA) (hL : zLn G ≤ 260) : zOk (F_Law_says G σ) (fun q => q.1 = 1 ∧ ∃ A' m' k', k' ≤ k + 4 ∧ zW q.2 A' n m' T k') := by
  obtain ⟨c, hC⟩ := hW.1
  have hn := hC.hn
  have hm := hC.hm
  have hI := hC.2.2.1
  rw [F_Law_says, k_c6 hC, Option.bind_some]
  refine zOk.bd2 (l_draw G hL (n := n) hW.2.2 (by omega) h0 (by omega)) (fun r4 s5 ⟨⟨h, hh, e4⟩, e5⟩ => ?_)
  have e4 : r4 = nI h := e4
  have e5 : s5 = zst σ 4 80 2 (nI (k + 1)) := e5
  have W5 : zW s5 A n m T (k + 1) := by rw [e5]; exact hW.d
  obtain ⟨c5, hC5⟩ := W5.1
  rw [e4, k_c7 hC5, Option.bind_some]
  refine zOk.bd2 (l_draw G hL (n := 100) W5.2.2 (by omega) (by decide) (by decide)) (fun r9 s10 ⟨⟨b, hb, e9⟩, e10⟩ => ?_)
  have e9 : r9 = nI b := e9
  have e10 : s10 = zst s5 4 80 2 (nI (k + 1 + 1)) := e10
  have W10 : zW s10 A n m T (k + 1 + 1) := by rw [e10]; exact W5.d
  rw [e9]
  refine zOk.bd2 (l_draw G hL (n := 2) W10.2.2 (by omega) (by decide) (by decide)) (fun r12 s13 ⟨⟨j, hj, e12⟩, e13⟩ => ?_)
  have e13 : s13 = zst s10 4 80 2 (nI (k + 1 + 1 + 1)) := e13
  have W13 : zW s13 A n m T (k + 1 + 1 + 1) := by rw [e13]; exact W10.d
  have told : zOk (B_Law_says_43 G (nI h) (nI m) (nI b) s13) (fun q => q.1 = 1 ∧ ∃ A' m' k', k' ≤ k + 4 ∧ zW q.2 A' n m' T k') :=
    (l_says43 W13 G hh hb).mono (fun q ⟨a, A', m', w⟩ => ⟨a, A', m', _, by omega, w⟩)
  by_cases q12 : r12 = 0
  · rw [if_pos q12]; exact told
  · rw [if_neg q12]
    by_cases qm : nI m = 0
    · rw [if_pos qm]; exact told
    · rw [if_neg qm]
      have hm0 : 0 < m := by
        rcases Nat.eq_zero_or_pos m with z | z
        · rw [z] at qm; exact absurd rfl qm
        · exact z
      refine zOk.bd2 (l_draw G hL (n := m) W13.2.2 (by omega) hm0 (by omega)) (fun r15 s16 ⟨⟨w, hw, e15⟩, e16⟩ => ?_)
      have e15 : r15 = nI w := e15
      have e16 : s16 = zst s13 4 80 2 (nI (k + 1 + 1 + 1 + 1)) := e16
      have W16 : zW s16 A n m T (k + 1 + 1 + 1 + 1) := by rw [e16]; exact W13.d
      obtain ⟨⟨c6, hC6⟩, hO, hD6⟩ := W16
      rw [e15, k_w7 hC6 hw, Option.bind_some, k_w4 hC6 hw, Option.bind_some]
      obtain ⟨cor1, cor2, cor3⟩ := k_cor hC6 hh hw hb
      by_cases q3 : A 3 h w = 1
      · by_cases q4 : A 2 w 4 = -1
        · refine zOk.bd2 (cor3 q3 q4) (fun r22 s23 ⟨⟨r, er, e22⟩, g2, g3⟩ => ?_)
          have e22 : r22 = r := e22
          have g2 : zC s23 0 (aLearn (aCo A h w (nI b)) n h w) n m c6 T := g2
          have g3 : zfV 0 s16 s23 := g3
          have L2 : ∀ j, aLearn (aCo A h w (nI b)) n h w 2 w j = aCo A h w (nI b) 2 w j := fun j => by
            unfold aLearn
            split
            · rw [aup_f (by decide), aup_f (by decide)]
            · rw [aup_f (by decide), aup_f (by decide), aup_f (by decide), aup_f (by decide)]
          have L3 : ∀ i, aLearn (aCo A h w (nI b)) n h w 3 i w = A 3 i w := fun i => by
            have : aCo A h w (nI b) 3 i w = A 3 i w := by unfold aCo; rw [aup_f (by decide), aup_f (by decide), aup_f (by decide)]
            rw [← this]
            unfold aLearn
            split
            · rw [aup_f (by decide), aup_f (by decide)]
            · rw [aup_f (by decide), aup_f (by decide), aup_f (by decide), aup_f (by decide)]
          have L4 : ∀ i, i < n → aLearn (aCo A h w (nI b)) n h w 4 i w = if i = h then 1 else 0 := fun i hi => by
            have c4 : aCo A h w (nI b) 4 i w = 0 := by unfold aCo; rw [aup_f (by decide), aup_f (by decide), aup_f (by decide)]; exact hI.2.2.2.1 w hw q4 i hi
            have e : aLearn (aCo A h w (nI b)) n h w 4 i w = aup (aCo A h w (nI b)) 4 h w 1 4 i w := by
              unfold aLearn
              split
              · rw [aup_f (by decide)]
              · rw [aup_f (by decide), aup_f (by decide), aup_f (by decide)]
            rw [e]
            by_cases z : i = h
            · subst z; rw [aup_s, if_pos rfl]
            · rw [aup_i z, c4, if_neg z]
          have v3 : aCo A h w (nI b) 2 w 3 = nI b := by unfold aCo; rw [aup_j (by decide), aup_j (by decide), aup_s]
          have v4 : aCo A h w (nI b) 2 w 4 = nI h := by unfold aCo; rw [aup_j (by decide), aup_s]
          have v5 : aCo A h w (nI b) 2 w 5 = A 0 8 0 := by unfold aCo; rw [aup_s]
          have e7 : zm (fun i => decide (aLearn (aCo A h w (nI b)) n h w 4 i w = 1)) n = (1 : Int32) <<< (nI h &&& 31) := by
            rw [zm_bit (by omega) hh]
            refine zm_congr (fun i hi => ?_)
            rw [L4 i hi]
            by_cases z : i = h <;> simp [z]
          rw [k_w6 g2 hw, Option.bind_some, zm_g1 (by omega) hh, L3, decide_eq_true q3, if_neg (show ¬ bI true = (0 : Int32) by decide), q4, if_pos (show (-1 : Int32) < 0 by decide), k_owes g2 hh hw, Option.bind_some, er, Option.bind_some, if_pos e22, k_w3 g2 hw, Option.bind_some, L2, v3, if_pos rfl, k_w4 g2 hw, Option.bind_some, L2, v4, if_pos rfl, k_w7 g2 hw, Option.bind_some, e7, if_pos rfl, k_w5 g2 hw, Option.bind_some, L2, v5, k_c8 g2, Option.bind_some, if_pos hI.2.1.2.1]
          exact ⟨_, rfl, rfl, _, m, k + 4, Nat.le_refl _, ⟨c6, g2⟩, aOk_cor hI hO hh (aInv_co hI hh) q4, hD6.v g3 (by decide)⟩
        · refine zOk.bd2 (zOk.of (cor2 q3 q4) (P := fun q => q = (-4, s16)) rfl) (fun r22 s23 e => ?_)
          obtain ⟨e1, e2⟩ := Prod.mk.inj e
          have nn : ¬ A 2 w 4 < 0 := by
            rcases (hO.1 w hw).2 with y | ⟨u, hu, y, -⟩
            · exact absurd y q4
            · rw [y]; exact nI_pos (by omega)
          rw [e1, e2, k_w6 hC6 hw, Option.bind_some, zm_g1 (by omega) hh, decide_eq_true q3, if_neg (show ¬ bI true = (0 : Int32) by decide), if_neg nn, if_pos rfl, k_w7 hC6 hw, Option.bind_some, if_pos rfl]
          exact ⟨_, rfl, rfl, A, m, k + 4, Nat.le_refl _, ⟨c6, hC6⟩, hO, hD6⟩
      · refine zOk.bd2 (zOk.of (cor1 q3) (P := fun q => q = (-3, s16)) rfl) (fun r22 s23 e => ?_)
        obtain ⟨e1, e2⟩ := Prod.mk.inj e
        rw [e1, e2, k_w6 hC6 hw, Option.bind_some, zm_g1 (by omega) hh, decide_eq_false q3, if_pos (show bI false = (0 : Int32) by decide), if_pos rfl, k_w7 hC6 hw, Option.bind_some, if_pos rfl]
        exact ⟨_, rfl, rfl, A, m, k + 4, Nat.le_refl _, ⟨c6, hC6⟩, hO, hD6⟩
end LT
