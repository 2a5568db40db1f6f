/-! count, house, news -/
theorem zs_fit {f : Nat → Int32} {n : Nat} : ∀ {k : Nat}, n ≤ k → (∀ i, n ≤ i → i < k → f i = 0) → zs f k = zs f n
  | 0, h, _ => by
    have : n = 0 := by omega
    subst this; rfl
  | k + 1, h, e => by
    rcases Nat.eq_or_lt_of_le h with q | q
    · subst q; rfl
    · rw [zs, zs_fit (k := k) (by omega) (fun i a b => e i a (by omega)), e k (by omega) (by omega), Int32.add_zero]
theorem zs_add (f g : Nat → Int32) (n : Nat) : zs f n + zs g n = zs (fun k => f k + g k) n := by
  induction n with
  | zero => rfl
  | succ n ih =>
    rw [zs, zs, zs, ← ih]
    rw [Int32.add_assoc, Int32.add_assoc]
    congr 1
    rw [← Int32.add_assoc, ← Int32.add_assoc, Int32.add_comm (f n)]
def aNq (A : zAb) (m h : Nat) : Nat := fb_ct (fun w => decide (A 7 h w = 1)) m
def aCq (A : zAb) (m h : Nat) : Nat := fb_ct (fun w => decide (A 10 h w = 1)) m
theorem bI_of {x : Int32} (h : x = 0 ∨ x = 1) : x = bI (decide (x = 1)) := by
  rcases h with rfl | rfl <;> rfl
theorem aEntries {A : zAb} {n m T h : Nat} (hI : aInv A n m T) (hh : h < n) : zs (fun w => A 7 h w + A 10 h w) m = nI (aNq A m h + aCq A m h) := by
  rw [← zs_add, ← nI_add]
  unfold aNq aCq
  rw [← zs_ct, ← zs_ct]
  congr 1
  · exact zs_cong (fun w hw => bI_of (hI.2.2.2.2 h w hh hw).2.2.1)
  · exact zs_cong (fun w hw => bI_of (hI.2.2.2.2 h w hh hw).2.2.2.1)
theorem zBt_sub {a : Int32} {lo hi lo2 hi2 : Nat} (q : zBt a (nI lo) (nI hi) = false) (h1 : lo ≤ lo2) (h2 : hi2 ≤ hi) (h3 : hi < 2 ^ 31) (h4 : lo2 < 2 ^ 31) : zBt a (nI lo2) (nI hi2) = false := by
  cases h : zBt a (nI lo2) (nI hi2) with
  | false => rfl
  | true =>
    obtain ⟨k, a1, a2, rfl⟩ := z_rng h (by omega) h4
    rw [zBt_n (by omega) (by omega) h3] at q
    exact absurd q (by decide)
theorem zBt_ne {a : Int32} {lo hi k : Nat} (q : zBt a (nI lo) (nI hi) = false) (h1 : lo ≤ k) (h2 : k ≤ hi) (h3 : hi < 2 ^ 31) : ¬ a = nI k := by
  intro z
  subst z
  rw [zBt_n h1 h2 h3] at q
  exact absurd q (by decide)
section J2
variable {σ : zSt} {K : Nat}
theorem x_size43 {A : zAb} {n m T h : Nat} {c : Int32} (hC : zC σ 0 A n m c T) (hh : h < n) : F_Entries_size 0 43 (nI h) σ = some (nI (aNq A m h)) := by
  have hn := hC.hn
  rw [c_size43 hC.1 hC.2.2.1 (show h < 12 by omega)]
  unfold aNq
  simp [hh]
theorem x_size48 {A : zAb} {n m T h : Nat} {c : Int32} (hC : zC σ 0 A n m c T) (hh : h < n) : F_Entries_size 0 48 (nI h) σ = some (nI (aCq A m h)) := by
  have hn := hC.hn
  rw [c_size48 hC.1 hC.2.2.1 (show h < 12 by omega)]
  unfold aCq
  simp [hh]
theorem aTotals {A : zAb} {n m T : Nat} (hI : aInv A n m T) : zs (fun h => nI (fb_ct (fun w => decide (h < n) && decide (A 7 h w = 1)) m)) 12 + zs (fun h => nI (fb_ct (fun w => decide (h < n) && decide (A 10 h w = 1)) m)) 12 = zs (fun h => zs (fun w => A 7 h w + A 10 h w) m) n := by
  have hn := hI.1.2.2.1
  have z0 : ∀ (f : Nat → Nat → Bool) i, n ≤ i → nI (fb_ct (fun w => decide (i < n) && f i w) m) = 0 := fun f i hi => by
    have : fb_ct (fun w => decide (i < n) && f i w) m = 0 := fb_ct_zero.mpr (fun k _ => by simp [Nat.not_lt.mpr hi])
    rw [this]; rfl
  rw [zs_fit hn (fun i hi _ => z0 (fun i w => decide (A 7 i w = 1)) i hi), zs_fit hn (fun i hi _ => z0 (fun i w => decide (A 10 i w = 1)) i hi), zs_add]
  refine zs_cong (fun h hh => ?_)
  rw [aEntries hI hh, ← nI_add]
  unfold aNq aCq
  simp [hh]
theorem j_count (J : zJ σ K) (a : Int32) : zRI K (F_Law_count a σ) (F_Model_count a) := by
  obtain ⟨A, n, m, c, T, hT, hC, hM, hp⟩ := id J
  have hn := hC.hn
  have hm := hC.hm
  have hR := hC.1
  have hI := hC.2.2.1
  have hZ := hI.1
  have hd : A 0 5 0 ≠ 0 := (aInv_c hI).1
  obtain ⟨e0, e1, e2, -, e4, e5, e6⟩ := hR.1
  cases q : zBt a 0 13 with
  | false =>
    have ne : ∀ k, k ≤ 13 → ¬ a = nI k := fun k hk => zBt_ne (lo := 0) (hi := 13) q (Nat.zero_le k) hk (by decide)
    have q10 : zBt a 0 10 = false := zBt_sub (lo := 0) (hi := 13) (lo2 := 0) (hi2 := 10) q (by decide) (by decide) (by decide) (by decide)
    refine zRI.no (k := 1) J hM ?_ (by decide) (fun s hs _ => ?_)
    · simp only [F_Law_count, F_Waves_count, x_in0 q, Option.bind_some, bd2, F_Model_fail, z10, z20, z00, if_true, if_false, eq_self, zs_AI, zs_SA]
    · simp only [F_Model_count, if_neg (show ¬ a = 11 from ne 11 (by decide)), if_neg (show ¬ a = 12 from ne 12 (by decide)), if_neg (show ¬ a = 13 from ne 13 (by decide)), m_in0 q10, Option.bind_some, bd2, F_Model_fail, z10, z20, z00, if_true, if_false, eq_self, zs_AI, zs_SA]
  | true =>
    obtain ⟨k, -, hk, rfl⟩ := z_rng (lo := 0) (hi := 13) q (by decide) (by decide)
    rcases (show k = 0 ∨ k = 1 ∨ k = 2 ∨ k = 3 ∨ k = 4 ∨ k = 5 ∨ k = 6 ∨ k = 7 ∨ k = 8 ∨ k = 9 ∨ k = 10 ∨ k = 11 ∨ k = 12 ∨ k = 13 by omega) with rfl | rfl | rfl | rfl | rfl | rfl | rfl | rfl | rfl | rfl | rfl | rfl | rfl | rfl
    · refine zRI.qry (r := A 0 0 0) J hM ?_ (fun s hs _ => ?_)
      · have X : F_Waves_count (nI 0) σ = some (.inl (A 0 0 0)) := by
          rw [F_Waves_count, x_in1 q, Option.bind_some]
          dsimp only
          rw [if_neg (show ¬ nI 0 = (5 : Int32) by decide), if_neg (show ¬ nI 0 = (6 : Int32) by decide), if_neg (show ¬ nI 0 = (7 : Int32) by decide), if_neg (show ¬ nI 0 = (8 : Int32) by decide), if_neg (show ¬ nI 0 = (9 : Int32) by decide), if_neg (show ¬ nI 0 = (10 : Int32) by decide), if_neg (show ¬ nI 0 = (11 : Int32) by decide), if_neg (show ¬ nI 0 = (12 : Int32) by decide), if_neg (show ¬ nI 0 = (13 : Int32) by decide), r_get1 (show 0 < 5 by decide), Option.bind_some, e6 0 (by decide)]
        rw [F_Law_count, X]
        rfl
      · rw [F_Model_count, if_neg (show ¬ nI 0 = (11 : Int32) by decide), if_neg (show ¬ nI 0 = (12 : Int32) by decide), if_neg (show ¬ nI 0 = (13 : Int32) by decide), m_in1 (show zBt (nI 0) 0 10 = true by decide), Option.bind_some, if_neg (by decide), if_pos (inb_n (show 0 < 2592 by decide) (by decide)), nI_clamp (show 0 < 2 ^ 31 by decide), (hs.t8 0).sc (show 0 < 12 by decide)]
    · refine zRI.qry (r := A 0 1 0) J hM ?_ (fun s hs _ => ?_)
      · have X : F_Waves_count (nI 1) σ = some (.inl (A 0 1 0)) := by
          rw [F_Waves_count, x_in1 q, Option.bind_some]
          dsimp only
          rw [if_neg (show ¬ nI 1 = (5 : Int32) by decide), if_neg (show ¬ nI 1 = (6 : Int32) by decide), if_neg (show ¬ nI 1 = (7 : Int32) by decide), if_neg (show ¬ nI 1 = (8 : Int32) by decide), if_neg (show ¬ nI 1 = (9 : Int32) by decide), if_neg (show ¬ nI 1 = (10 : Int32) by decide), if_neg (show ¬ nI 1 = (11 : Int32) by decide), if_neg (show ¬ nI 1 = (12 : Int32) by decide), if_neg (show ¬ nI 1 = (13 : Int32) by decide), r_get1 (show 1 < 5 by decide), Option.bind_some, e6 1 (by decide)]
        rw [F_Law_count, X]
        rfl
      · rw [F_Model_count, if_neg (show ¬ nI 1 = (11 : Int32) by decide), if_neg (show ¬ nI 1 = (12 : Int32) by decide), if_neg (show ¬ nI 1 = (13 : Int32) by decide), m_in1 (show zBt (nI 1) 0 10 = true by decide), Option.bind_some, if_neg (by decide), if_pos (inb_n (show 1 < 2592 by decide) (by decide)), nI_clamp (show 1 < 2 ^ 31 by decide), (hs.t8 0).sc (show 1 < 12 by decide)]
    · refine zRI.qry (r := A 0 2 0) J hM ?_ (fun s hs _ => ?_)
      · have X : F_Waves_count (nI 2) σ = some (.inl (A 0 2 0)) := by
          rw [F_Waves_count, x_in1 q, Option.bind_some]
          dsimp only
          rw [if_neg (show ¬ nI 2 = (5 : Int32) by decide), if_neg (show ¬ nI 2 = (6 : Int32) by decide), if_neg (show ¬ nI 2 = (7 : Int32) by decide), if_neg (show ¬ nI 2 = (8 : Int32) by decide), if_neg (show ¬ nI 2 = (9 : Int32) by decide), if_neg (show ¬ nI 2 = (10 : Int32) by decide), if_neg (show ¬ nI 2 = (11 : Int32) by decide), if_neg (show ¬ nI 2 = (12 : Int32) by decide), if_neg (show ¬ nI 2 = (13 : Int32) by decide), r_get1 (show 2 < 5 by decide), Option.bind_some, e6 2 (by decide)]
        rw [F_Law_count, X]
        rfl
      · rw [F_Model_count, if_neg (show ¬ nI 2 = (11 : Int32) by decide), if_neg (show ¬ nI 2 = (12 : Int32) by decide), if_neg (show ¬ nI 2 = (13 : Int32) by decide), m_in1 (show zBt (nI 2) 0 10 = true by decide), Option.bind_some, if_neg (by decide), if_pos (inb_n (show 2 < 2592 by decide) (by decide)), nI_clamp (show 2 < 2 ^ 31 by decide), (hs.t8 0).sc (show 2 < 12 by decide)]
    · refine zRI.qry (r := A 0 3 0) J hM ?_ (fun s hs _ => ?_)
      · have X : F_Waves_count (nI 3) σ = some (.inl (A 0 3 0)) := by
          rw [F_Waves_count, x_in1 q, Option.bind_some]
          dsimp only
          rw [if_neg (show ¬ nI 3 = (5 : Int32) by decide), if_neg (show ¬ nI 3 = (6 : Int32) by decide), if_neg (show ¬ nI 3 = (7 : Int32) by decide), if_neg (show ¬ nI 3 = (8 : Int32) by decide), if_neg (show ¬ nI 3 = (9 : Int32) by decide), if_neg (show ¬ nI 3 = (10 : Int32) by decide), if_neg (show ¬ nI 3 = (11 : Int32) by decide), if_neg (show ¬ nI 3 = (12 : Int32) by decide), if_neg (show ¬ nI 3 = (13 : Int32) by decide), r_get1 (show 3 < 5 by decide), Option.bind_some, e6 3 (by decide)]
        rw [F_Law_count, X]
        rfl
      · rw [F_Model_count, if_neg (show ¬ nI 3 = (11 : Int32) by decide), if_neg (show ¬ nI 3 = (12 : Int32) by decide), if_neg (show ¬ nI 3 = (13 : Int32) by decide), m_in1 (show zBt (nI 3) 0 10 = true by decide), Option.bind_some, if_neg (by decide), if_pos (inb_n (show 3 < 2592 by decide) (by decide)), nI_clamp (show 3 < 2 ^ 31 by decide), (hs.t8 0).sc (show 3 < 12 by decide)]
    · refine zRI.qry (r := A 0 4 0) J hM ?_ (fun s hs _ => ?_)
      · have X : F_Waves_count (nI 4) σ = some (.inl (A 0 4 0)) := by
          rw [F_Waves_count, x_in1 q, Option.bind_some]
          dsimp only
          rw [if_neg (show ¬ nI 4 = (5 : Int32) by decide), if_neg (show ¬ nI 4 = (6 : Int32) by decide), if_neg (show ¬ nI 4 = (7 : Int32) by decide), if_neg (show ¬ nI 4 = (8 : Int32) by decide), if_neg (show ¬ nI 4 = (9 : Int32) by decide), if_neg (show ¬ nI 4 = (10 : Int32) by decide), if_neg (show ¬ nI 4 = (11 : Int32) by decide), if_neg (show ¬ nI 4 = (12 : Int32) by decide), if_neg (show ¬ nI 4 = (13 : Int32) by decide), r_get1 (show 4 < 5 by decide), Option.bind_some, e6 4 (by decide)]
        rw [F_Law_count, X]
        rfl
      · rw [F_Model_count, if_neg (show ¬ nI 4 = (11 : Int32) by decide), if_neg (show ¬ nI 4 = (12 : Int32) by decide), if_neg (show ¬ nI 4 = (13 : Int32) by decide), m_in1 (show zBt (nI 4) 0 10 = true by decide), Option.bind_some, if_neg (by decide), if_pos (inb_n (show 4 < 2592 by decide) (by decide)), nI_clamp (show 4 < 2 ^ 31 by decide), (hs.t8 0).sc (show 4 < 12 by decide)]
    · refine zRI.qry (r := A 0 5 0) J hM ?_ (fun s hs _ => ?_)
      · have X : F_Waves_count (nI 5) σ = some (.inl (A 0 5 0)) := by
          rw [F_Waves_count, x_in1 q, Option.bind_some]
          dsimp only
          rw [if_pos (show nI 5 = (5 : Int32) from rfl), e0]
        rw [F_Law_count, X]
        rfl
      · rw [F_Model_count, if_neg (show ¬ nI 5 = (11 : Int32) by decide), if_neg (show ¬ nI 5 = (12 : Int32) by decide), if_neg (show ¬ nI 5 = (13 : Int32) by decide), m_in1 (show zBt (nI 5) 0 10 = true by decide), Option.bind_some, if_neg (by decide), if_pos (inb_n (show 5 < 2592 by decide) (by decide)), nI_clamp (show 5 < 2 ^ 31 by decide), (hs.t8 0).sc (show 5 < 12 by decide)]
    · refine zRI.qry (r := A 0 6 0) J hM ?_ (fun s hs _ => ?_)
      · have X : F_Waves_count (nI 6) σ = some (.inl (A 0 6 0)) := by
          rw [F_Waves_count, x_in1 q, Option.bind_some]
          dsimp only
          rw [if_neg (show ¬ nI 6 = (5 : Int32) by decide), if_pos (show nI 6 = (6 : Int32) from rfl), e4, ← hZ.1]
        rw [F_Law_count, X]
        rfl
      · rw [F_Model_count, if_neg (show ¬ nI 6 = (11 : Int32) by decide), if_neg (show ¬ nI 6 = (12 : Int32) by decide), if_neg (show ¬ nI 6 = (13 : Int32) by decide), m_in1 (show zBt (nI 6) 0 10 = true by decide), Option.bind_some, if_neg (by decide), if_pos (inb_n (show 6 < 2592 by decide) (by decide)), nI_clamp (show 6 < 2 ^ 31 by decide), (hs.t8 0).sc (show 6 < 12 by decide)]
    · refine zRI.qry (r := A 0 7 0) J hM ?_ (fun s hs _ => ?_)
      · have X : F_Waves_count (nI 7) σ = some (.inl (A 0 7 0)) := by
          rw [F_Waves_count, x_in1 q, Option.bind_some]
          dsimp only
          rw [if_neg (show ¬ nI 7 = (5 : Int32) by decide), if_neg (show ¬ nI 7 = (6 : Int32) by decide), if_pos (show nI 7 = (7 : Int32) from rfl), e5, ← hZ.2.1]
        rw [F_Law_count, X]
        rfl
      · rw [F_Model_count, if_neg (show ¬ nI 7 = (11 : Int32) by decide), if_neg (show ¬ nI 7 = (12 : Int32) by decide), if_neg (show ¬ nI 7 = (13 : Int32) by decide), m_in1 (show zBt (nI 7) 0 10 = true by decide), Option.bind_some, if_neg (by decide), if_pos (inb_n (show 7 < 2592 by decide) (by decide)), nI_clamp (show 7 < 2 ^ 31 by decide), (hs.t8 0).sc (show 7 < 12 by decide)]
    · refine zRI.qry (r := A 0 8 0) J hM ?_ (fun s hs _ => ?_)
      · have X : F_Waves_count (nI 8) σ = some (.inl (A 0 8 0)) := by
          rw [F_Waves_count, x_in1 q, Option.bind_some]
          dsimp only
          rw [if_neg (show ¬ nI 8 = (5 : Int32) by decide), if_neg (show ¬ nI 8 = (6 : Int32) by decide), if_neg (show ¬ nI 8 = (7 : Int32) by decide), if_pos (show nI 8 = (8 : Int32) from rfl), e1]
        rw [F_Law_count, X]
        rfl
      · rw [F_Model_count, if_neg (show ¬ nI 8 = (11 : Int32) by decide), if_neg (show ¬ nI 8 = (12 : Int32) by decide), if_neg (show ¬ nI 8 = (13 : Int32) by decide), m_in1 (show zBt (nI 8) 0 10 = true by decide), Option.bind_some, if_neg (by decide), if_pos (inb_n (show 8 < 2592 by decide) (by decide)), nI_clamp (show 8 < 2 ^ 31 by decide), (hs.t8 0).sc (show 8 < 12 by decide)]
    · refine zRI.qry (r := A 0 9 0) J hM ?_ (fun s hs _ => ?_)
      · have X : F_Waves_count (nI 9) σ = some (.inl (A 0 9 0)) := by
          rw [F_Waves_count, x_in1 q, Option.bind_some]
          dsimp only
          rw [if_neg (show ¬ nI 9 = (5 : Int32) by decide), if_neg (show ¬ nI 9 = (6 : Int32) by decide), if_neg (show ¬ nI 9 = (7 : Int32) by decide), if_neg (show ¬ nI 9 = (8 : Int32) by decide), if_pos (show nI 9 = (9 : Int32) from rfl), e2]
        rw [F_Law_count, X]
        rfl
      · rw [F_Model_count, if_neg (show ¬ nI 9 = (11 : Int32) by decide), if_neg (show ¬ nI 9 = (12 : Int32) by decide), if_neg (show ¬ nI 9 = (13 : Int32) by decide), m_in1 (show zBt (nI 9) 0 10 = true by decide), Option.bind_some, if_neg (by decide), if_pos (inb_n (show 9 < 2592 by decide) (by decide)), nI_clamp (show 9 < 2 ^ 31 by decide), (hs.t8 0).sc (show 9 < 12 by decide)]
    · refine zRI.qry (r := A 0 10 0) J hM ?_ (fun s hs _ => ?_)
      · have X : F_Waves_count (nI 10) σ = some (.inl (A 0 10 0)) := by
          rw [F_Waves_count, x_in1 q, Option.bind_some]
          dsimp only
          rw [if_neg (show ¬ nI 10 = (5 : Int32) by decide), if_neg (show ¬ nI 10 = (6 : Int32) by decide), if_neg (show ¬ nI 10 = (7 : Int32) by decide), if_neg (show ¬ nI 10 = (8 : Int32) by decide), if_neg (show ¬ nI 10 = (9 : Int32) by decide), if_pos (show nI 10 = (10 : Int32) from rfl), hC.2.1.1]
        rw [F_Law_count, X]
        rfl
      · rw [F_Model_count, if_neg (show ¬ nI 10 = (11 : Int32) by decide), if_neg (show ¬ nI 10 = (12 : Int32) by decide), if_neg (show ¬ nI 10 = (13 : Int32) by decide), m_in1 (show zBt (nI 10) 0 10 = true by decide), Option.bind_some, if_neg (by decide), if_pos (inb_n (show 10 < 2592 by decide) (by decide)), nI_clamp (show 10 < 2 ^ 31 by decide), (hs.t8 0).sc (show 10 < 12 by decide)]
    · refine zRI.qry (r := zm (fun h => aQuiet A h (aT A)) n) J hM ?_ (fun s hs _ => ?_)
      · have X : F_Waves_count (nI 11) σ = some (.inl (zm (fun h => aQuiet A h (aT A)) n)) := by
          rw [F_Waves_count, x_in1 q, Option.bind_some]
          dsimp only
          rw [if_neg (show ¬ nI 11 = (5 : Int32) by decide), if_neg (show ¬ nI 11 = (6 : Int32) by decide), if_neg (show ¬ nI 11 = (7 : Int32) by decide), if_neg (show ¬ nI 11 = (8 : Int32) by decide), if_neg (show ¬ nI 11 = (9 : Int32) by decide), if_neg (show ¬ nI 11 = (10 : Int32) by decide), if_pos (show nI 11 = (11 : Int32) from rfl), c_minuteOfDay hR hI, Option.bind_some, c_quietAt hR hI, Option.bind_some]
        rw [F_Law_count, X]
        rfl
      · rw [F_Model_count, if_pos (show nI 11 = (11 : Int32) from rfl), m_quietHouses (hs.t8 0) hZ hd, Option.bind_some]
    · refine zRI.qry (r := zs (fun w => bI (aCor A w)) m) J hM ?_ (fun s hs _ => ?_)
      · have X : F_Waves_count (nI 12) σ = some (.inl (zs (fun w => bI (aCor A w)) m)) := by
          rw [F_Waves_count, x_in1 q, Option.bind_some]
          dsimp only
          rw [if_neg (show ¬ nI 12 = (5 : Int32) by decide), if_neg (show ¬ nI 12 = (6 : Int32) by decide), if_neg (show ¬ nI 12 = (7 : Int32) by decide), if_neg (show ¬ nI 12 = (8 : Int32) by decide), if_neg (show ¬ nI 12 = (9 : Int32) by decide), if_neg (show ¬ nI 12 = (10 : Int32) by decide), if_neg (show ¬ nI 12 = (11 : Int32) by decide), if_pos (show nI 12 = (12 : Int32) from rfl), c_correctedNumber hR hI, Option.bind_some]
        rw [F_Law_count, X]
        rfl
      · rw [F_Model_count, if_neg (show ¬ nI 12 = (11 : Int32) by decide), if_pos (show nI 12 = (12 : Int32) from rfl), m_correctedNews (hs.t8 0) hZ, Option.bind_some]
    · refine zRI.qry (r := zs (fun h => zs (fun w => A 7 h w + A 10 h w) m) n) J hM ?_ (fun s hs _ => ?_)
      · have X : F_Waves_count (nI 13) σ = some (.inl (zs (fun h => zs (fun w => A 7 h w + A 10 h w) m) n)) := by
          rw [F_Waves_count, x_in1 q, Option.bind_some]
          dsimp only
          rw [if_neg (show ¬ nI 13 = (5 : Int32) by decide), if_neg (show ¬ nI 13 = (6 : Int32) by decide), if_neg (show ¬ nI 13 = (7 : Int32) by decide), if_neg (show ¬ nI 13 = (8 : Int32) by decide), if_neg (show ¬ nI 13 = (9 : Int32) by decide), if_neg (show ¬ nI 13 = (10 : Int32) by decide), if_neg (show ¬ nI 13 = (11 : Int32) by decide), if_neg (show ¬ nI 13 = (12 : Int32) by decide), if_pos (show nI 13 = (13 : Int32) from rfl), c_total43 hR hI, Option.bind_some, c_total48 hR hI, Option.bind_some, aTotals hI]
        rw [F_Law_count, X]
        rfl
      · rw [F_Model_count, if_neg (show ¬ nI 13 = (11 : Int32) by decide), if_neg (show ¬ nI 13 = (12 : Int32) by decide), if_pos (show nI 13 = (13 : Int32) from rfl), m_allEntries (hs.t8 0) hZ, Option.bind_some]
theorem j_house (J : zJ σ K) (a b : Int32) : zRI K (F_Law_house a b σ) (F_Model_house a b) := by
  obtain ⟨A, n, m, c, T, hT, hC, hM, hp⟩ := id J
  have hn := hC.hn
  have hm := hC.hm
  have hR := hC.1
  have hI := hC.2.2.1
  have hZ := hI.1
  have hd : A 0 5 0 ≠ 0 := (aInv_c hI).1
  rcases z_idx a (n := n) (by omega) with ⟨h, hh, rfl⟩ | ha
  · have h12 : h < 12 := by omega
    obtain ⟨g0, g1, g2, g3, g4, g5, g6, g7, g8, g9⟩ := hR.2.1 h hh
    cases q : zBt b 0 14 with
    | false =>
      have ne : ∀ k, k ≤ 14 → ¬ b = nI k := fun k hk => zBt_ne (lo := 0) (hi := 14) q (Nat.zero_le k) hk (by decide)
      have q6 : zBt b 0 6 = false := zBt_sub (lo := 0) (hi := 14) (lo2 := 0) (hi2 := 6) q (by decide) (by decide) (by decide) (by decide)
      refine zRI.no (k := 2) J hM ?_ (by decide) (fun s hs _ => ?_)
      · simp only [F_Law_house, F_Waves_house, x_h1 hC hh, x_in0 q, Option.bind_some, bd2, F_Model_fail, z10, z20, z00, if_true, if_false, eq_self, zs_AI, zs_SA]
      · simp only [F_Model_house, m_isHouse1 (hs.t8 0) hZ hh, if_neg (show ¬ b = 7 from ne 7 (by decide)), if_neg (show ¬ b = 8 from ne 8 (by decide)), if_neg (show ¬ b = 9 from ne 9 (by decide)), if_neg (show ¬ b = 10 from ne 10 (by decide)), if_neg (show ¬ b = 11 from ne 11 (by decide)), if_neg (show ¬ b = 12 from ne 12 (by decide)), if_neg (show ¬ b = 13 from ne 13 (by decide)), if_neg (show ¬ b = 14 from ne 14 (by decide)), m_in0 q6, Option.bind_some, bd2, F_Model_fail, z10, z20, z00, if_true, if_false, eq_self, zs_AI, zs_SA]
    | true =>
      obtain ⟨k, -, hk, rfl⟩ := z_rng (lo := 0) (hi := 14) q (by decide) (by decide)
      rcases (show k = 0 ∨ k = 1 ∨ k = 2 ∨ k = 3 ∨ k = 4 ∨ k = 5 ∨ k = 6 ∨ k = 7 ∨ k = 8 ∨ k = 9 ∨ k = 10 ∨ k = 11 ∨ k = 12 ∨ k = 13 ∨ k = 14 by omega) with rfl | rfl | rfl | rfl | rfl | rfl | rfl | rfl | rfl | rfl | rfl | rfl | rfl | rfl | rfl
      · refine zRI.qry (r := A 1 h 0) J hM ?_ (fun s hs _ => ?_)
        · have X : F_Waves_house (nI h) (nI 0) σ = some (.inl (A 1 h 0)) := by
            rw [F_Waves_house, x_h1 hC hh, Option.bind_some]
            dsimp only
            rw [x_in1 q, Option.bind_some]
            dsimp only
            rw [if_pos (show nI 0 = (0 : Int32) from rfl), r_get4 h12, Option.bind_some, g0]
          rw [F_Law_house, X]
          rfl
        · rw [F_Model_house, m_isHouse1 (hs.t8 0) hZ hh, Option.bind_some, if_neg (by decide), if_neg (show ¬ nI 0 = (7 : Int32) by decide), if_neg (show ¬ nI 0 = (8 : Int32) by decide), if_neg (show ¬ nI 0 = (9 : Int32) by decide), if_neg (show ¬ nI 0 = (10 : Int32) by decide), if_neg (show ¬ nI 0 = (11 : Int32) by decide), if_neg (show ¬ nI 0 = (12 : Int32) by decide), if_neg (show ¬ nI 0 = (13 : Int32) by decide), if_neg (show ¬ nI 0 = (14 : Int32) by decide), m_in1 (show zBt (nI 0) 0 6 = true by decide), Option.bind_some, if_neg (by decide), m_of (hs.t8 0) h12 (show 0 < 10 by decide), Option.bind_some]
      · refine zRI.qry (r := A 1 h 1) J hM ?_ (fun s hs _ => ?_)
        · have X : F_Waves_house (nI h) (nI 1) σ = some (.inl (A 1 h 1)) := by
            rw [F_Waves_house, x_h1 hC hh, Option.bind_some]
            dsimp only
            rw [x_in1 q, Option.bind_some]
            dsimp only
            rw [if_neg (show ¬ nI 1 = (0 : Int32) by decide), if_pos (show nI 1 = (1 : Int32) from rfl), r_get6 h12, Option.bind_some, g1]
          rw [F_Law_house, X]
          rfl
        · rw [F_Model_house, m_isHouse1 (hs.t8 0) hZ hh, Option.bind_some, if_neg (by decide), if_neg (show ¬ nI 1 = (7 : Int32) by decide), if_neg (show ¬ nI 1 = (8 : Int32) by decide), if_neg (show ¬ nI 1 = (9 : Int32) by decide), if_neg (show ¬ nI 1 = (10 : Int32) by decide), if_neg (show ¬ nI 1 = (11 : Int32) by decide), if_neg (show ¬ nI 1 = (12 : Int32) by decide), if_neg (show ¬ nI 1 = (13 : Int32) by decide), if_neg (show ¬ nI 1 = (14 : Int32) by decide), m_in1 (show zBt (nI 1) 0 6 = true by decide), Option.bind_some, if_neg (by decide), m_of (hs.t8 0) h12 (show 1 < 10 by decide), Option.bind_some]
      · refine zRI.qry (r := A 1 h 2) J hM ?_ (fun s hs _ => ?_)
        · have X : F_Waves_house (nI h) (nI 2) σ = some (.inl (A 1 h 2)) := by
            rw [F_Waves_house, x_h1 hC hh, Option.bind_some]
            dsimp only
            rw [x_in1 q, Option.bind_some]
            dsimp only
            rw [if_neg (show ¬ nI 2 = (0 : Int32) by decide), if_neg (show ¬ nI 2 = (1 : Int32) by decide), if_pos (show nI 2 = (2 : Int32) from rfl), r_get8 h12, Option.bind_some, g2]
          rw [F_Law_house, X]
          rfl
        · rw [F_Model_house, m_isHouse1 (hs.t8 0) hZ hh, Option.bind_some, if_neg (by decide), if_neg (show ¬ nI 2 = (7 : Int32) by decide), if_neg (show ¬ nI 2 = (8 : Int32) by decide), if_neg (show ¬ nI 2 = (9 : Int32) by decide), if_neg (show ¬ nI 2 = (10 : Int32) by decide), if_neg (show ¬ nI 2 = (11 : Int32) by decide), if_neg (show ¬ nI 2 = (12 : Int32) by decide), if_neg (show ¬ nI 2 = (13 : Int32) by decide), if_neg (show ¬ nI 2 = (14 : Int32) by decide), m_in1 (show zBt (nI 2) 0 6 = true by decide), Option.bind_some, if_neg (by decide), m_of (hs.t8 0) h12 (show 2 < 10 by decide), Option.bind_some]
      · refine zRI.qry (r := A 1 h 3) J hM ?_ (fun s hs _ => ?_)
        · have X : F_Waves_house (nI h) (nI 3) σ = some (.inl (A 1 h 3)) := by
            rw [F_Waves_house, x_h1 hC hh, Option.bind_some]
            dsimp only
            rw [x_in1 q, Option.bind_some]
            dsimp only
            rw [if_neg (show ¬ nI 3 = (0 : Int32) by decide), if_neg (show ¬ nI 3 = (1 : Int32) by decide), if_neg (show ¬ nI 3 = (2 : Int32) by decide), if_pos (show nI 3 = (3 : Int32) from rfl), r_get10 h12, Option.bind_some, g3]
          rw [F_Law_house, X]
          rfl
        · rw [F_Model_house, m_isHouse1 (hs.t8 0) hZ hh, Option.bind_some, if_neg (by decide), if_neg (show ¬ nI 3 = (7 : Int32) by decide), if_neg (show ¬ nI 3 = (8 : Int32) by decide), if_neg (show ¬ nI 3 = (9 : Int32) by decide), if_neg (show ¬ nI 3 = (10 : Int32) by decide), if_neg (show ¬ nI 3 = (11 : Int32) by decide), if_neg (show ¬ nI 3 = (12 : Int32) by decide), if_neg (show ¬ nI 3 = (13 : Int32) by decide), if_neg (show ¬ nI 3 = (14 : Int32) by decide), m_in1 (show zBt (nI 3) 0 6 = true by decide), Option.bind_some, if_neg (by decide), m_of (hs.t8 0) h12 (show 3 < 10 by decide), Option.bind_some]
      · refine zRI.qry (r := A 1 h 4) J hM ?_ (fun s hs _ => ?_)
        · have X : F_Waves_house (nI h) (nI 4) σ = some (.inl (A 1 h 4)) := by
            rw [F_Waves_house, x_h1 hC hh, Option.bind_some]
            dsimp only
            rw [x_in1 q, Option.bind_some]
            dsimp only
            rw [if_neg (show ¬ nI 4 = (0 : Int32) by decide), if_neg (show ¬ nI 4 = (1 : Int32) by decide), if_neg (show ¬ nI 4 = (2 : Int32) by decide), if_neg (show ¬ nI 4 = (3 : Int32) by decide), if_pos (show nI 4 = (4 : Int32) from rfl), r_get12 h12, Option.bind_some, g4]
          rw [F_Law_house, X]
          rfl
        · rw [F_Model_house, m_isHouse1 (hs.t8 0) hZ hh, Option.bind_some, if_neg (by decide), if_neg (show ¬ nI 4 = (7 : Int32) by decide), if_neg (show ¬ nI 4 = (8 : Int32) by decide), if_neg (show ¬ nI 4 = (9 : Int32) by decide), if_neg (show ¬ nI 4 = (10 : Int32) by decide), if_neg (show ¬ nI 4 = (11 : Int32) by decide), if_neg (show ¬ nI 4 = (12 : Int32) by decide), if_neg (show ¬ nI 4 = (13 : Int32) by decide), if_neg (show ¬ nI 4 = (14 : Int32) by decide), m_in1 (show zBt (nI 4) 0 6 = true by decide), Option.bind_some, if_neg (by decide), m_of (hs.t8 0) h12 (show 4 < 10 by decide), Option.bind_some]
      · refine zRI.qry (r := A 1 h 5) J hM ?_ (fun s hs _ => ?_)
        · have X : F_Waves_house (nI h) (nI 5) σ = some (.inl (A 1 h 5)) := by
            rw [F_Waves_house, x_h1 hC hh, Option.bind_some]
            dsimp only
            rw [x_in1 q, Option.bind_some]
            dsimp only
            rw [if_neg (show ¬ nI 5 = (0 : Int32) by decide), if_neg (show ¬ nI 5 = (1 : Int32) by decide), if_neg (show ¬ nI 5 = (2 : Int32) by decide), if_neg (show ¬ nI 5 = (3 : Int32) by decide), if_neg (show ¬ nI 5 = (4 : Int32) by decide), if_pos (show nI 5 = (5 : Int32) from rfl), r_get14 h12, Option.bind_some, g5]
          rw [F_Law_house, X]
          rfl
        · rw [F_Model_house, m_isHouse1 (hs.t8 0) hZ hh, Option.bind_some, if_neg (by decide), if_neg (show ¬ nI 5 = (7 : Int32) by decide), if_neg (show ¬ nI 5 = (8 : Int32) by decide), if_neg (show ¬ nI 5 = (9 : Int32) by decide), if_neg (show ¬ nI 5 = (10 : Int32) by decide), if_neg (show ¬ nI 5 = (11 : Int32) by decide), if_neg (show ¬ nI 5 = (12 : Int32) by decide), if_neg (show ¬ nI 5 = (13 : Int32) by decide), if_neg (show ¬ nI 5 = (14 : Int32) by decide), m_in1 (show zBt (nI 5) 0 6 = true by decide), Option.bind_some, if_neg (by decide), m_of (hs.t8 0) h12 (show 5 < 10 by decide), Option.bind_some]
      · refine zRI.qry (r := A 1 h 6) J hM ?_ (fun s hs _ => ?_)
        · have X : F_Waves_house (nI h) (nI 6) σ = some (.inl (A 1 h 6)) := by
            rw [F_Waves_house, x_h1 hC hh, Option.bind_some]
            dsimp only
            rw [x_in1 q, Option.bind_some]
            dsimp only
            rw [if_neg (show ¬ nI 6 = (0 : Int32) by decide), if_neg (show ¬ nI 6 = (1 : Int32) by decide), if_neg (show ¬ nI 6 = (2 : Int32) by decide), if_neg (show ¬ nI 6 = (3 : Int32) by decide), if_neg (show ¬ nI 6 = (4 : Int32) by decide), if_neg (show ¬ nI 6 = (5 : Int32) by decide), if_pos (show nI 6 = (6 : Int32) from rfl), r_get16 h12, Option.bind_some, g6]
          rw [F_Law_house, X]
          rfl
        · rw [F_Model_house, m_isHouse1 (hs.t8 0) hZ hh, Option.bind_some, if_neg (by decide), if_neg (show ¬ nI 6 = (7 : Int32) by decide), if_neg (show ¬ nI 6 = (8 : Int32) by decide), if_neg (show ¬ nI 6 = (9 : Int32) by decide), if_neg (show ¬ nI 6 = (10 : Int32) by decide), if_neg (show ¬ nI 6 = (11 : Int32) by decide), if_neg (show ¬ nI 6 = (12 : Int32) by decide), if_neg (show ¬ nI 6 = (13 : Int32) by decide), if_neg (show ¬ nI 6 = (14 : Int32) by decide), m_in1 (show zBt (nI 6) 0 6 = true by decide), Option.bind_some, if_neg (by decide), m_of (hs.t8 0) h12 (show 6 < 10 by decide), Option.bind_some]
      · refine zRI.qry (r := bI (aQuiet A h (aT A))) J hM ?_ (fun s hs _ => ?_)
        · have X : F_Waves_house (nI h) (nI 7) σ = some (.inl (bI (aQuiet A h (aT A)))) := by
            rw [F_Waves_house, x_h1 hC hh, Option.bind_some]
            dsimp only
            rw [x_in1 q, Option.bind_some]
            dsimp only
            rw [if_neg (show ¬ nI 7 = (0 : Int32) by decide), if_neg (show ¬ nI 7 = (1 : Int32) by decide), if_neg (show ¬ nI 7 = (2 : Int32) by decide), if_neg (show ¬ nI 7 = (3 : Int32) by decide), if_neg (show ¬ nI 7 = (4 : Int32) by decide), if_neg (show ¬ nI 7 = (5 : Int32) by decide), if_neg (show ¬ nI 7 = (6 : Int32) by decide), if_pos (show nI 7 = (7 : Int32) from rfl), c_minuteOfDay hR hI, Option.bind_some, c_isQuietAt hR hI hh, Option.bind_some]
            cases aQuiet A h (aT A) <;> rfl
          rw [F_Law_house, X]
          rfl
        · rw [F_Model_house, m_isHouse1 (hs.t8 0) hZ hh, Option.bind_some, if_neg (by decide), if_pos (show nI 7 = (7 : Int32) from rfl), m_quiet (hs.t8 0) hd h12, Option.bind_some]
          cases aQuiet A h (aT A) <;> rfl
      · refine zRI.qry (r := A 1 h 7) J hM ?_ (fun s hs _ => ?_)
        · have X : F_Waves_house (nI h) (nI 8) σ = some (.inl (A 1 h 7)) := by
            rw [F_Waves_house, x_h1 hC hh, Option.bind_some]
            dsimp only
            rw [x_in1 q, Option.bind_some]
            dsimp only
            rw [if_neg (show ¬ nI 8 = (0 : Int32) by decide), if_neg (show ¬ nI 8 = (1 : Int32) by decide), if_neg (show ¬ nI 8 = (2 : Int32) by decide), if_neg (show ¬ nI 8 = (3 : Int32) by decide), if_neg (show ¬ nI 8 = (4 : Int32) by decide), if_neg (show ¬ nI 8 = (5 : Int32) by decide), if_neg (show ¬ nI 8 = (6 : Int32) by decide), if_neg (show ¬ nI 8 = (7 : Int32) by decide), if_pos (show nI 8 = (8 : Int32) from rfl), r_get18 h12, Option.bind_some, g7]
          rw [F_Law_house, X]
          rfl
        · rw [F_Model_house, m_isHouse1 (hs.t8 0) hZ hh, Option.bind_some, if_neg (by decide), if_neg (show ¬ nI 8 = (7 : Int32) by decide), if_pos (show nI 8 = (8 : Int32) from rfl), show (nI 8 - 1 : Int32) = nI 7 from rfl, m_of (hs.t8 0) h12 (show 7 < 10 by decide), Option.bind_some]
      · refine zRI.qry (r := A 1 h 8) J hM ?_ (fun s hs _ => ?_)
        · have X : F_Waves_house (nI h) (nI 9) σ = some (.inl (A 1 h 8)) := by
            rw [F_Waves_house, x_h1 hC hh, Option.bind_some]
            dsimp only
            rw [x_in1 q, Option.bind_some]
            dsimp only
            rw [if_neg (show ¬ nI 9 = (0 : Int32) by decide), if_neg (show ¬ nI 9 = (1 : Int32) by decide), if_neg (show ¬ nI 9 = (2 : Int32) by decide), if_neg (show ¬ nI 9 = (3 : Int32) by decide), if_neg (show ¬ nI 9 = (4 : Int32) by decide), if_neg (show ¬ nI 9 = (5 : Int32) by decide), if_neg (show ¬ nI 9 = (6 : Int32) by decide), if_neg (show ¬ nI 9 = (7 : Int32) by decide), if_neg (show ¬ nI 9 = (8 : Int32) by decide), if_pos (show nI 9 = (9 : Int32) from rfl), r_get20 h12, Option.bind_some, g8]
          rw [F_Law_house, X]
          rfl
        · rw [F_Model_house, m_isHouse1 (hs.t8 0) hZ hh, Option.bind_some, if_neg (by decide), if_neg (show ¬ nI 9 = (7 : Int32) by decide), if_neg (show ¬ nI 9 = (8 : Int32) by decide), if_pos (show nI 9 = (9 : Int32) from rfl), show (nI 9 - 1 : Int32) = nI 8 from rfl, m_of (hs.t8 0) h12 (show 8 < 10 by decide), Option.bind_some]
      · refine zRI.qry (r := zm (fun w => aKn A h w 0) m) J hM ?_ (fun s hs _ => ?_)
        · have X : F_Waves_house (nI h) (nI 10) σ = some (.inl (zm (fun w => aKn A h w 0) m)) := by
            rw [F_Waves_house, x_h1 hC hh, Option.bind_some]
            dsimp only
            rw [x_in1 q, Option.bind_some]
            dsimp only
            rw [if_neg (show ¬ nI 10 = (0 : Int32) by decide), if_neg (show ¬ nI 10 = (1 : Int32) by decide), if_neg (show ¬ nI 10 = (2 : Int32) by decide), if_neg (show ¬ nI 10 = (3 : Int32) by decide), if_neg (show ¬ nI 10 = (4 : Int32) by decide), if_neg (show ¬ nI 10 = (5 : Int32) by decide), if_neg (show ¬ nI 10 = (6 : Int32) by decide), if_neg (show ¬ nI 10 = (7 : Int32) by decide), if_neg (show ¬ nI 10 = (8 : Int32) by decide), if_neg (show ¬ nI 10 = (9 : Int32) by decide), if_pos (show nI 10 = (10 : Int32) from rfl), c_newsKnownAt hR hI hh, Option.bind_some]
          rw [F_Law_house, X]
          rfl
        · rw [F_Model_house, m_isHouse1 (hs.t8 0) hZ hh, Option.bind_some, if_neg (by decide), if_neg (show ¬ nI 10 = (7 : Int32) by decide), if_neg (show ¬ nI 10 = (8 : Int32) by decide), if_neg (show ¬ nI 10 = (9 : Int32) by decide), if_pos (show nI 10 = (10 : Int32) from rfl), show (nI 10 - 10 : Int32) = nI 0 from rfl, m_newsOf (hs.t8 0) hZ h12 (by decide), Option.bind_some]
      · refine zRI.qry (r := zm (fun w => aKn A h w 1) m) J hM ?_ (fun s hs _ => ?_)
        · have X : F_Waves_house (nI h) (nI 11) σ = some (.inl (zm (fun w => aKn A h w 1) m)) := by
            rw [F_Waves_house, x_h1 hC hh, Option.bind_some]
            dsimp only
            rw [x_in1 q, Option.bind_some]
            dsimp only
            rw [if_neg (show ¬ nI 11 = (0 : Int32) by decide), if_neg (show ¬ nI 11 = (1 : Int32) by decide), if_neg (show ¬ nI 11 = (2 : Int32) by decide), if_neg (show ¬ nI 11 = (3 : Int32) by decide), if_neg (show ¬ nI 11 = (4 : Int32) by decide), if_neg (show ¬ nI 11 = (5 : Int32) by decide), if_neg (show ¬ nI 11 = (6 : Int32) by decide), if_neg (show ¬ nI 11 = (7 : Int32) by decide), if_neg (show ¬ nI 11 = (8 : Int32) by decide), if_neg (show ¬ nI 11 = (9 : Int32) by decide), if_neg (show ¬ nI 11 = (10 : Int32) by decide), if_pos (show nI 11 = (11 : Int32) from rfl), c_correctionsKnownAt hR hI hh, Option.bind_some]
          rw [F_Law_house, X]
          rfl
        · rw [F_Model_house, m_isHouse1 (hs.t8 0) hZ hh, Option.bind_some, if_neg (by decide), if_neg (show ¬ nI 11 = (7 : Int32) by decide), if_neg (show ¬ nI 11 = (8 : Int32) by decide), if_neg (show ¬ nI 11 = (9 : Int32) by decide), if_neg (show ¬ nI 11 = (10 : Int32) by decide), if_pos (show nI 11 = (11 : Int32) from rfl), show (nI 11 - 10 : Int32) = nI 1 from rfl, m_newsOf (hs.t8 0) hZ h12 (by decide), Option.bind_some]
      · refine zRI.qry (r := zm (fun w => aKn A h w 2) m) J hM ?_ (fun s hs _ => ?_)
        · have X : F_Waves_house (nI h) (nI 12) σ = some (.inl (zm (fun w => aKn A h w 2) m)) := by
            rw [F_Waves_house, x_h1 hC hh, Option.bind_some]
            dsimp only
            rw [x_in1 q, Option.bind_some]
            dsimp only
            rw [if_neg (show ¬ nI 12 = (0 : Int32) by decide), if_neg (show ¬ nI 12 = (1 : Int32) by decide), if_neg (show ¬ nI 12 = (2 : Int32) by decide), if_neg (show ¬ nI 12 = (3 : Int32) by decide), if_neg (show ¬ nI 12 = (4 : Int32) by decide), if_neg (show ¬ nI 12 = (5 : Int32) by decide), if_neg (show ¬ nI 12 = (6 : Int32) by decide), if_neg (show ¬ nI 12 = (7 : Int32) by decide), if_neg (show ¬ nI 12 = (8 : Int32) by decide), if_neg (show ¬ nI 12 = (9 : Int32) by decide), if_neg (show ¬ nI 12 = (10 : Int32) by decide), if_neg (show ¬ nI 12 = (11 : Int32) by decide), if_pos (show nI 12 = (12 : Int32) from rfl), c_uncorrectedAt hR hI hh, Option.bind_some]
          rw [F_Law_house, X]
          rfl
        · rw [F_Model_house, m_isHouse1 (hs.t8 0) hZ hh, Option.bind_some, if_neg (by decide), if_neg (show ¬ nI 12 = (7 : Int32) by decide), if_neg (show ¬ nI 12 = (8 : Int32) by decide), if_neg (show ¬ nI 12 = (9 : Int32) by decide), if_neg (show ¬ nI 12 = (10 : Int32) by decide), if_neg (show ¬ nI 12 = (11 : Int32) by decide), if_pos (show nI 12 = (12 : Int32) from rfl), show (nI 12 - 10 : Int32) = nI 2 from rfl, m_newsOf (hs.t8 0) hZ h12 (by decide), Option.bind_some]
      · refine zRI.qry (r := nI (aNq A m h + aCq A m h)) J hM ?_ (fun s hs _ => ?_)
        · have X : F_Waves_house (nI h) (nI 13) σ = some (.inl (nI (aNq A m h + aCq A m h))) := by
            rw [F_Waves_house, x_h1 hC hh, Option.bind_some]
            dsimp only
            rw [x_in1 q, Option.bind_some]
            dsimp only
            rw [if_neg (show ¬ nI 13 = (0 : Int32) by decide), if_neg (show ¬ nI 13 = (1 : Int32) by decide), if_neg (show ¬ nI 13 = (2 : Int32) by decide), if_neg (show ¬ nI 13 = (3 : Int32) by decide), if_neg (show ¬ nI 13 = (4 : Int32) by decide), if_neg (show ¬ nI 13 = (5 : Int32) by decide), if_neg (show ¬ nI 13 = (6 : Int32) by decide), if_neg (show ¬ nI 13 = (7 : Int32) by decide), if_neg (show ¬ nI 13 = (8 : Int32) by decide), if_neg (show ¬ nI 13 = (9 : Int32) by decide), if_neg (show ¬ nI 13 = (10 : Int32) by decide), if_neg (show ¬ nI 13 = (11 : Int32) by decide), if_neg (show ¬ nI 13 = (12 : Int32) by decide), if_pos (show nI 13 = (13 : Int32) from rfl), x_size43 hC hh, Option.bind_some, x_size48 hC hh, Option.bind_some, nI_add]
          rw [F_Law_house, X]
          rfl
        · rw [F_Model_house, m_isHouse1 (hs.t8 0) hZ hh, Option.bind_some, if_neg (by decide), if_neg (show ¬ nI 13 = (7 : Int32) by decide), if_neg (show ¬ nI 13 = (8 : Int32) by decide), if_neg (show ¬ nI 13 = (9 : Int32) by decide), if_neg (show ¬ nI 13 = (10 : Int32) by decide), if_neg (show ¬ nI 13 = (11 : Int32) by decide), if_neg (show ¬ nI 13 = (12 : Int32) by decide), if_pos (show nI 13 = (13 : Int32) from rfl), m_entriesOf (hs.t8 0) hZ h12, Option.bind_some, aEntries hI hh]
      · refine zRI.qry (r := aNear A n h) J hM ?_ (fun s hs _ => ?_)
        · have X : F_Waves_house (nI h) (nI 14) σ = some (.inl (aNear A n h)) := by
            rw [F_Waves_house, x_h1 hC hh, Option.bind_some]
            dsimp only
            rw [x_in1 q, Option.bind_some]
            dsimp only
            rw [if_neg (show ¬ nI 14 = (0 : Int32) by decide), if_neg (show ¬ nI 14 = (1 : Int32) by decide), if_neg (show ¬ nI 14 = (2 : Int32) by decide), if_neg (show ¬ nI 14 = (3 : Int32) by decide), if_neg (show ¬ nI 14 = (4 : Int32) by decide), if_neg (show ¬ nI 14 = (5 : Int32) by decide), if_neg (show ¬ nI 14 = (6 : Int32) by decide), if_neg (show ¬ nI 14 = (7 : Int32) by decide), if_neg (show ¬ nI 14 = (8 : Int32) by decide), if_neg (show ¬ nI 14 = (9 : Int32) by decide), if_neg (show ¬ nI 14 = (10 : Int32) by decide), if_neg (show ¬ nI 14 = (11 : Int32) by decide), if_neg (show ¬ nI 14 = (12 : Int32) by decide), if_neg (show ¬ nI 14 = (13 : Int32) by decide), r_get22 h12, Option.bind_some, g9]
          rw [F_Law_house, X]
          rfl
        · rw [F_Model_house, m_isHouse1 (hs.t8 0) hZ hh, Option.bind_some, if_neg (by decide), if_neg (show ¬ nI 14 = (7 : Int32) by decide), if_neg (show ¬ nI 14 = (8 : Int32) by decide), if_neg (show ¬ nI 14 = (9 : Int32) by decide), if_neg (show ¬ nI 14 = (10 : Int32) by decide), if_neg (show ¬ nI 14 = (11 : Int32) by decide), if_neg (show ¬ nI 14 = (12 : Int32) by decide), if_neg (show ¬ nI 14 = (13 : Int32) by decide), if_pos (show nI 14 = (14 : Int32) from rfl), m_near (hs.t8 0) hZ h12, Option.bind_some]
          rfl
  · refine zRI.no (k := 1) J hM ?_ (by decide) (fun s hs _ => ?_)
    · simp only [F_Law_house, F_Waves_house, x_h0 hC ha, Option.bind_some, bd2, F_Model_fail, z10, z20, z00, if_true, if_false, eq_self, zs_AI, zs_SA]
    · simp only [F_Model_house, m_isHouse0 (hs.t8 0) hZ ha, Option.bind_some, bd2, F_Model_fail, z10, z20, z00, if_true, if_false, eq_self, zs_AI, zs_SA]
theorem j_news (J : zJ σ K) (a b : Int32) : zRI K (F_Law_news a b σ) (F_Model_news a b) := by
  obtain ⟨A, n, m, c, T, hT, hC, hM, hp⟩ := id J
  have hn := hC.hn
  have hm := hC.hm
  have hR := hC.1
  have hI := hC.2.2.1
  have hZ := hI.1
  rcases z_idx a (n := m) (by omega) with ⟨w, hw, rfl⟩ | ha
  · have w20 : w < 20 := by omega
    obtain ⟨g0, g1, g2, g3, g4, g5, g6, g7, g8⟩ := hR.2.2.1 w hw
    cases q : zBt b 0 9 with
    | false =>
      have ne : ∀ k, k ≤ 9 → ¬ b = nI k := fun k hk => zBt_ne (lo := 0) (hi := 9) q (Nat.zero_le k) hk (by decide)
      have q5 : zBt b 0 5 = false := zBt_sub (lo := 0) (hi := 9) (lo2 := 0) (hi2 := 5) q (by decide) (by decide) (by decide) (by decide)
      refine zRI.no (k := 2) J hM ?_ (by decide) (fun s hs _ => ?_)
      · simp only [F_Law_news, F_Waves_news, x_w1 hC hw, x_in0 q, Option.bind_some, bd2, F_Model_fail, z10, z20, z00, if_true, if_false, eq_self, zs_AI, zs_SA]
      · simp only [F_Model_news, m_isNews1 (hs.t8 0) hZ hw, if_neg (show ¬ b = 6 from ne 6 (by decide)), if_neg (show ¬ b = 7 from ne 7 (by decide)), if_neg (show ¬ b = 8 from ne 8 (by decide)), if_neg (show ¬ b = 9 from ne 9 (by decide)), m_in0 q5, Option.bind_some, bd2, F_Model_fail, z10, z20, z00, if_true, if_false, eq_self, zs_AI, zs_SA]
    | true =>
      obtain ⟨k, -, hk, rfl⟩ := z_rng (lo := 0) (hi := 9) q (by decide) (by decide)
      rcases (show k = 0 ∨ k = 1 ∨ k = 2 ∨ k = 3 ∨ k = 4 ∨ k = 5 ∨ k = 6 ∨ k = 7 ∨ k = 8 ∨ k = 9 by omega) with rfl | rfl | rfl | rfl | rfl | rfl | rfl | rfl | rfl | rfl
      · refine zRI.qry (r := A 2 w 0) J hM ?_ (fun s hs _ => ?_)
        · have X : F_Waves_news (nI w) (nI 0) σ = some (.inl (A 2 w 0)) := by
            rw [F_Waves_news, x_w1 hC hw, Option.bind_some]
            dsimp only
            rw [x_in1 q, Option.bind_some]
            dsimp only
            rw [if_pos (show nI 0 = (0 : Int32) from rfl), r_get25 w20, Option.bind_some, g0]
          rw [F_Law_news, X]
          rfl
        · rw [F_Model_news, m_isNews1 (hs.t8 0) hZ hw, Option.bind_some, if_neg (by decide), if_neg (show ¬ nI 0 = (6 : Int32) by decide), if_neg (show ¬ nI 0 = (7 : Int32) by decide), if_neg (show ¬ nI 0 = (8 : Int32) by decide), if_neg (show ¬ nI 0 = (9 : Int32) by decide), m_in1 (show zBt (nI 0) 0 5 = true by decide), Option.bind_some, if_neg (by decide), m_story (hs.t8 0) w20 (show 0 < 6 by decide), Option.bind_some]
      · refine zRI.qry (r := A 2 w 1) J hM ?_ (fun s hs _ => ?_)
        · have X : F_Waves_news (nI w) (nI 1) σ = some (.inl (A 2 w 1)) := by
            rw [F_Waves_news, x_w1 hC hw, Option.bind_some]
            dsimp only
            rw [x_in1 q, Option.bind_some]
            dsimp only
            rw [if_neg (show ¬ nI 1 = (0 : Int32) by decide), if_pos (show nI 1 = (1 : Int32) from rfl), r_get27 w20, Option.bind_some, g1]
          rw [F_Law_news, X]
          rfl
        · rw [F_Model_news, m_isNews1 (hs.t8 0) hZ hw, Option.bind_some, if_neg (by decide), if_neg (show ¬ nI 1 = (6 : Int32) by decide), if_neg (show ¬ nI 1 = (7 : Int32) by decide), if_neg (show ¬ nI 1 = (8 : Int32) by decide), if_neg (show ¬ nI 1 = (9 : Int32) by decide), m_in1 (show zBt (nI 1) 0 5 = true by decide), Option.bind_some, if_neg (by decide), m_story (hs.t8 0) w20 (show 1 < 6 by decide), Option.bind_some]
      · refine zRI.qry (r := A 2 w 2) J hM ?_ (fun s hs _ => ?_)
        · have X : F_Waves_news (nI w) (nI 2) σ = some (.inl (A 2 w 2)) := by
            rw [F_Waves_news, x_w1 hC hw, Option.bind_some]
            dsimp only
            rw [x_in1 q, Option.bind_some]
            dsimp only
            rw [if_neg (show ¬ nI 2 = (0 : Int32) by decide), if_neg (show ¬ nI 2 = (1 : Int32) by decide), if_pos (show nI 2 = (2 : Int32) from rfl), r_get29 w20, Option.bind_some, g2]
          rw [F_Law_news, X]
          rfl
        · rw [F_Model_news, m_isNews1 (hs.t8 0) hZ hw, Option.bind_some, if_neg (by decide), if_neg (show ¬ nI 2 = (6 : Int32) by decide), if_neg (show ¬ nI 2 = (7 : Int32) by decide), if_neg (show ¬ nI 2 = (8 : Int32) by decide), if_neg (show ¬ nI 2 = (9 : Int32) by decide), m_in1 (show zBt (nI 2) 0 5 = true by decide), Option.bind_some, if_neg (by decide), m_story (hs.t8 0) w20 (show 2 < 6 by decide), Option.bind_some]
      · refine zRI.qry (r := A 2 w 3) J hM ?_ (fun s hs _ => ?_)
        · have X : F_Waves_news (nI w) (nI 3) σ = some (.inl (A 2 w 3)) := by
            rw [F_Waves_news, x_w1 hC hw, Option.bind_some]
            dsimp only
            rw [x_in1 q, Option.bind_some]
            dsimp only
            rw [if_neg (show ¬ nI 3 = (0 : Int32) by decide), if_neg (show ¬ nI 3 = (1 : Int32) by decide), if_neg (show ¬ nI 3 = (2 : Int32) by decide), if_pos (show nI 3 = (3 : Int32) from rfl), r_get31 w20, Option.bind_some, g3]
          rw [F_Law_news, X]
          rfl
        · rw [F_Model_news, m_isNews1 (hs.t8 0) hZ hw, Option.bind_some, if_neg (by decide), if_neg (show ¬ nI 3 = (6 : Int32) by decide), if_neg (show ¬ nI 3 = (7 : Int32) by decide), if_neg (show ¬ nI 3 = (8 : Int32) by decide), if_neg (show ¬ nI 3 = (9 : Int32) by decide), m_in1 (show zBt (nI 3) 0 5 = true by decide), Option.bind_some, if_neg (by decide), m_story (hs.t8 0) w20 (show 3 < 6 by decide), Option.bind_some]
      · refine zRI.qry (r := A 2 w 4) J hM ?_ (fun s hs _ => ?_)
        · have X : F_Waves_news (nI w) (nI 4) σ = some (.inl (A 2 w 4)) := by
            rw [F_Waves_news, x_w1 hC hw, Option.bind_some]
            dsimp only
            rw [x_in1 q, Option.bind_some]
            dsimp only
            rw [if_neg (show ¬ nI 4 = (0 : Int32) by decide), if_neg (show ¬ nI 4 = (1 : Int32) by decide), if_neg (show ¬ nI 4 = (2 : Int32) by decide), if_neg (show ¬ nI 4 = (3 : Int32) by decide), if_pos (show nI 4 = (4 : Int32) from rfl), r_get33 w20, Option.bind_some, g4]
          rw [F_Law_news, X]
          rfl
        · rw [F_Model_news, m_isNews1 (hs.t8 0) hZ hw, Option.bind_some, if_neg (by decide), if_neg (show ¬ nI 4 = (6 : Int32) by decide), if_neg (show ¬ nI 4 = (7 : Int32) by decide), if_neg (show ¬ nI 4 = (8 : Int32) by decide), if_neg (show ¬ nI 4 = (9 : Int32) by decide), m_in1 (show zBt (nI 4) 0 5 = true by decide), Option.bind_some, if_neg (by decide), m_story (hs.t8 0) w20 (show 4 < 6 by decide), Option.bind_some]
      · refine zRI.qry (r := A 2 w 5) J hM ?_ (fun s hs _ => ?_)
        · have X : F_Waves_news (nI w) (nI 5) σ = some (.inl (A 2 w 5)) := by
            rw [F_Waves_news, x_w1 hC hw, Option.bind_some]
            dsimp only
            rw [x_in1 q, Option.bind_some]
            dsimp only
            rw [if_neg (show ¬ nI 5 = (0 : Int32) by decide), if_neg (show ¬ nI 5 = (1 : Int32) by decide), if_neg (show ¬ nI 5 = (2 : Int32) by decide), if_neg (show ¬ nI 5 = (3 : Int32) by decide), if_neg (show ¬ nI 5 = (4 : Int32) by decide), if_pos (show nI 5 = (5 : Int32) from rfl), r_get35 w20, Option.bind_some, g5]
          rw [F_Law_news, X]
          rfl
        · rw [F_Model_news, m_isNews1 (hs.t8 0) hZ hw, Option.bind_some, if_neg (by decide), if_neg (show ¬ nI 5 = (6 : Int32) by decide), if_neg (show ¬ nI 5 = (7 : Int32) by decide), if_neg (show ¬ nI 5 = (8 : Int32) by decide), if_neg (show ¬ nI 5 = (9 : Int32) by decide), m_in1 (show zBt (nI 5) 0 5 = true by decide), Option.bind_some, if_neg (by decide), m_story (hs.t8 0) w20 (show 5 < 6 by decide), Option.bind_some]
      · refine zRI.qry (r := zm (fun h => aKn A h w 0) n) J hM ?_ (fun s hs _ => ?_)
        · have X : F_Waves_news (nI w) (nI 6) σ = some (.inl (zm (fun h => aKn A h w 0) n)) := by
            rw [F_Waves_news, x_w1 hC hw, Option.bind_some]
            dsimp only
            rw [x_in1 q, Option.bind_some]
            dsimp only
            rw [if_neg (show ¬ nI 6 = (0 : Int32) by decide), if_neg (show ¬ nI 6 = (1 : Int32) by decide), if_neg (show ¬ nI 6 = (2 : Int32) by decide), if_neg (show ¬ nI 6 = (3 : Int32) by decide), if_neg (show ¬ nI 6 = (4 : Int32) by decide), if_neg (show ¬ nI 6 = (5 : Int32) by decide), if_pos (show nI 6 = (6 : Int32) from rfl), r_get37 w20, Option.bind_some, g6]
            rfl
          rw [F_Law_news, X]
          rfl
        · rw [F_Model_news, m_isNews1 (hs.t8 0) hZ hw, Option.bind_some, if_neg (by decide), if_pos (show nI 6 = (6 : Int32) from rfl), show (nI 6 - 6 : Int32) = nI 0 from rfl, m_housesOf (hs.t8 0) hZ w20 (by decide), Option.bind_some]
      · refine zRI.qry (r := zm (fun h => aKn A h w 1) n) J hM ?_ (fun s hs _ => ?_)
        · have X : F_Waves_news (nI w) (nI 7) σ = some (.inl (zm (fun h => aKn A h w 1) n)) := by
            rw [F_Waves_news, x_w1 hC hw, Option.bind_some]
            dsimp only
            rw [x_in1 q, Option.bind_some]
            dsimp only
            rw [if_neg (show ¬ nI 7 = (0 : Int32) by decide), if_neg (show ¬ nI 7 = (1 : Int32) by decide), if_neg (show ¬ nI 7 = (2 : Int32) by decide), if_neg (show ¬ nI 7 = (3 : Int32) by decide), if_neg (show ¬ nI 7 = (4 : Int32) by decide), if_neg (show ¬ nI 7 = (5 : Int32) by decide), if_neg (show ¬ nI 7 = (6 : Int32) by decide), if_pos (show nI 7 = (7 : Int32) from rfl), r_get39 w20, Option.bind_some, g7]
            rfl
          rw [F_Law_news, X]
          rfl
        · rw [F_Model_news, m_isNews1 (hs.t8 0) hZ hw, Option.bind_some, if_neg (by decide), if_neg (show ¬ nI 7 = (6 : Int32) by decide), if_pos (show nI 7 = (7 : Int32) from rfl), show (nI 7 - 6 : Int32) = nI 1 from rfl, m_housesOf (hs.t8 0) hZ w20 (by decide), Option.bind_some]
      · refine zRI.qry (r := zm (fun h => aKn A h w 2) n) J hM ?_ (fun s hs _ => ?_)
        · have X : F_Waves_news (nI w) (nI 8) σ = some (.inl (zm (fun h => aKn A h w 2) n)) := by
            rw [F_Waves_news, x_w1 hC hw, Option.bind_some]
            dsimp only
            rw [x_in1 q, Option.bind_some]
            dsimp only
            rw [if_neg (show ¬ nI 8 = (0 : Int32) by decide), if_neg (show ¬ nI 8 = (1 : Int32) by decide), if_neg (show ¬ nI 8 = (2 : Int32) by decide), if_neg (show ¬ nI 8 = (3 : Int32) by decide), if_neg (show ¬ nI 8 = (4 : Int32) by decide), if_neg (show ¬ nI 8 = (5 : Int32) by decide), if_neg (show ¬ nI 8 = (6 : Int32) by decide), if_neg (show ¬ nI 8 = (7 : Int32) by decide), if_pos (show nI 8 = (8 : Int32) from rfl), c_uncorrectedHouses hR hI hw, Option.bind_some]
          rw [F_Law_news, X]
          rfl
        · rw [F_Model_news, m_isNews1 (hs.t8 0) hZ hw, Option.bind_some, if_neg (by decide), if_neg (show ¬ nI 8 = (6 : Int32) by decide), if_neg (show ¬ nI 8 = (7 : Int32) by decide), if_pos (show nI 8 = (8 : Int32) from rfl), show (nI 8 - 6 : Int32) = nI 2 from rfl, m_housesOf (hs.t8 0) hZ w20 (by decide), Option.bind_some]
      · refine zRI.qry (r := zmx (fun h => A 6 h w) n) J hM ?_ (fun s hs _ => ?_)
        · have X : F_Waves_news (nI w) (nI 9) σ = some (.inl (zmx (fun h => A 6 h w) n)) := by
            rw [F_Waves_news, x_w1 hC hw, Option.bind_some]
            dsimp only
            rw [x_in1 q, Option.bind_some]
            dsimp only
            rw [if_neg (show ¬ nI 9 = (0 : Int32) by decide), if_neg (show ¬ nI 9 = (1 : Int32) by decide), if_neg (show ¬ nI 9 = (2 : Int32) by decide), if_neg (show ¬ nI 9 = (3 : Int32) by decide), if_neg (show ¬ nI 9 = (4 : Int32) by decide), if_neg (show ¬ nI 9 = (5 : Int32) by decide), if_neg (show ¬ nI 9 = (6 : Int32) by decide), if_neg (show ¬ nI 9 = (7 : Int32) by decide), if_neg (show ¬ nI 9 = (8 : Int32) by decide), r_get41 w20, Option.bind_some, g8]
          rw [F_Law_news, X]
          rfl
        · rw [F_Model_news, m_isNews1 (hs.t8 0) hZ hw, Option.bind_some, if_neg (by decide), if_neg (show ¬ nI 9 = (6 : Int32) by decide), if_neg (show ¬ nI 9 = (7 : Int32) by decide), if_neg (show ¬ nI 9 = (8 : Int32) by decide), if_pos (show nI 9 = (9 : Int32) from rfl), m_greatest (hs.t8 0) hZ w20, Option.bind_some]
  · refine zRI.no (k := 1) J hM ?_ (by decide) (fun s hs _ => ?_)
    · simp only [F_Law_news, F_Waves_news, x_w0 hC ha, Option.bind_some, bd2, F_Model_fail, z10, z20, z00, if_true, if_false, eq_self, zs_AI, zs_SA]
    · simp only [F_Model_news, m_isNews0 (hs.t8 0) hZ ha, Option.bind_some, bd2, F_Model_fail, z10, z20, z00, if_true, if_false, eq_self, zs_AI, zs_SA]
end J2
