/-! meanBattery, hops -/
theorem zs_nI {f : Nat → Int32} {b : Nat} : ∀ {n : Nat}, (∀ k, k < n → ∃ x, x ≤ b ∧ f k = nI x) → ∃ s, s ≤ b * n ∧ zs f n = nI s
  | 0, _ => ⟨0, Nat.zero_le _, rfl⟩
  | n + 1, h => by
    obtain ⟨s, h1, h2⟩ := zs_nI (n := n) (fun k hk => h k (by omega))
    obtain ⟨x, h3, h4⟩ := h n (by omega)
    exact ⟨s + x, by rw [Nat.mul_succ]; omega, by rw [zs, h2, h4, nI_add]⟩
theorem zn_m1 : zn64 (FP.f2d (3212836864 : UInt32)) = true := by decide +kernel
section JM
variable {σ : zSt} {K : Nat}
theorem j_meanBattery (J : zJ σ K) : ∃ r, F_Waves_meanBattery σ = some r ∧ zn64 (FP.f2d r) = true ∧ F_Model_meanBattery σ = some (r, zst σ 4 80 8 0) ∧ zJ (zst σ 4 80 8 0) K := by
  have J8 := J.t8 0
  obtain ⟨A, n, m, c, T, hT, hC, hM, hp⟩ := J
  have hn := hC.hn
  have hI := hC.2.2.1
  have hM' := hM.t8 0
  have en := hC.1.1.2.2.2.2.1
  have e6 : (zst σ 4 80 8 0).1 4 81 6 = nI n := (hM'.sc (by decide)).trans hI.1.1
  obtain ⟨s, hs, es⟩ := zs_nI (f := fun h => A 1 h 3) (b := 999) (n := n) (fun k hk => (hI.2.2.1 k hk).2.2.2.1)
  have loop : ∀ r, (if (zst σ 4 80 8 0).1 4 81 6 = 0 then some ((3212836864 : UInt32), zst σ 4 80 8 0) else (if zn32 (FP.fdiv (FP.i2f (nI s)) (FP.i2f ((zst σ 4 80 8 0).1 4 81 6))) = true then some ((FP.fdiv (FP.i2f (nI s)) (FP.i2f ((zst σ 4 80 8 0).1 4 81 6))), zst σ 4 80 8 0) else none)) = some r → F_Model_meanBattery σ = some r := fun r hr => by
    rw [F_Model_meanBattery]
    refine z_for (fun j k => L_Model_meanBattery j 0 (zs (fun h => A 1 h 3) k) (nI k) (zst σ 4 80 8 0)) n r (fun k hk j => ?_) (fun j => ?_) zK (zK_lt (by omega))
    · try dsimp only
      rw [e_Model_meanBattery_0, e6, if_neg (nI_ge hk (by omega)), m_of3 hM' (show k < 12 by omega), Option.bind_some, nI_1]
      rfl
    · try dsimp only
      rw [e_Model_meanBattery_0]
      rw [if_pos (by rw [e6]; exact nI_le0 (by omega)), es]
      exact hr
  by_cases q : 0 < n
  · obtain ⟨z1, z2⟩ := zn_mean (s := s) (n := n) (by have := Nat.mul_le_mul_left 999 hn; omega) (by omega) q
    refine ⟨FP.fdiv (FP.i2f (nI s)) (FP.i2f (nI n)), ?_, z2, loop _ ?_, J8⟩
    · rw [F_Waves_meanBattery, en, if_pos (show (0 : Int32) < nI n from nI_lt (a := 0) q (by omega)), c_batterySum hC.1 hI, Option.bind_some, es, if_pos z1]
    · rw [e6, if_neg (nI_ne0 q (by omega)), if_pos z1]
  · have n0 : n = 0 := by omega
    refine ⟨3212836864, ?_, zn_m1, loop _ ?_, J8⟩
    · rw [F_Waves_meanBattery, en, n0, if_neg (by decide)]
    · rw [e6, n0, if_pos (show nI 0 = (0 : Int32) from rfl)]
/-! sets of houses that sendings reach -/
def oS (A : zAb) (P : Nat → Bool) : Nat → Nat → Bool
  | 0, _ => false
  | j + 1, k => oS A P j k || (P j && aRng A j k)
def hS (A : zAb) (n : Nat) (P : Nat → Bool) (k : Nat) : Bool := P k || oS A P n k
def hP (A : zAb) (n h : Nat) : Nat → Nat → Bool
  | 0 => fun k => decide (k = h)
  | i + 1 => hS A n (hP A n h i)
def hX (A : zAb) (n h o : Nat) : Nat → Nat → Int32
  | _, 0 => -1
  | i, d + 1 => if hP A n h i o = true then nI i else hX A n h o (i + 1) d
theorem oS_cg {A : zAb} {P Q : Nat → Bool} : ∀ {j : Nat}, (∀ i, i < j → P i = Q i) → ∀ k, oS A P j k = oS A Q j k
  | 0, _, _ => rfl
  | j + 1, e, k => by rw [oS, oS, oS_cg (fun i hi => e i (by omega)) k, e j (by omega)]
theorem hS_cg {A : zAb} {n : Nat} {P Q : Nat → Bool} (e : ∀ i, i < n → P i = Q i) {k : Nat} (hk : k < n) : hS A n P k = hS A n Q k := by
  unfold hS
  rw [e k hk, oS_cg e k]
theorem hX_stat {A : zAb} {n h o : Nat} (ho : o < n) : ∀ d i, (∀ k, k < n → hP A n h (i + 1) k = hP A n h i k) → hP A n h i o = false → hX A n h o i d = -1
  | 0, _, _, _ => rfl
  | d + 1, i, e, q => by
    rw [hX, if_neg (by rw [q]; decide)]
    exact hX_stat ho d (i + 1) (fun k hk => hS_cg e hk) (by rw [e o ho]; exact q)
theorem hP_grow {A : zAb} {n h i : Nat} (q : ¬ zm (hP A n h (i + 1)) n = zm (hP A n h i) n) : fb_ct (hP A n h i) n + 1 ≤ fb_ct (hP A n h (i + 1)) n := by
  have e : fb_ct (hP A n h (i + 1)) n = fb_ct (fun k => hP A n h i k || (hP A n h (i + 1) k && !hP A n h i k)) n := fb_ct_cong (fun k hk => by
    show hS A n (hP A n h i) k = (hP A n h i k || (hS A n (hP A n h i) k && !hP A n h i k))
    unfold hS
    generalize hP A n h i k = a
    generalize oS A (hP A n h i) n k = b
    cases a <;> cases b <;> rfl)
  rw [e, fb_ct_or (fun k hk z => by cases y : hP A n h i k <;> simp [y] at z)]
  have : 0 < fb_ct (fun k => hP A n h (i + 1) k && !hP A n h i k) n := by
    refine fb_ct_pos.mpr (Classical.byContradiction fun z => q (zm_congr fun k hk => ?_))
    have z2 : ¬ (hP A n h (i + 1) k && !hP A n h i k) = true := fun y => z ⟨k, hk, y⟩
    have z3 : hP A n h i k = true → hP A n h (i + 1) k = true := fun y => by
      show hS A n (hP A n h i) k = true
      unfold hS
      rw [y]; rfl
    cases y1 : hP A n h i k <;> cases y2 : hP A n h (i + 1) k <;> simp_all
  omega
theorem x_ranges {A : zAb} {n m T : Nat} {c : Int32} (hC : zC σ 0 A n m c T) (P : Nat → Bool) : F_Homes_rangesOf 0 (zm P n) σ = some (zm (oS A P n) n) := by
  have hn := hC.hn
  rw [F_Homes_rangesOf]
  have e0 : zm (oS A P 0) n = 0 := (zm_zero (by omega)).mpr (fun _ _ => rfl)
  rw [show (0 : Int32) = zm (oS A P 0) n from e0.symm]
  rw [show L_Homes_rangesOf 0 σ zK 0 (zm P n) (zm (oS A P 0) n) (zm (oS A P 0) n) = L_Homes_rangesOf 0 σ zK 0 (zm P n) (zm (oS A P 0) n) (nI 0) by rw [e0]; rfl]
  refine z_for (fun j k => L_Homes_rangesOf 0 σ j 0 (zm P n) (zm (oS A P k) n) (nI k)) n _ (fun k hk j => ?_) (fun j => ?_) zK (zK_lt (by omega))
  · try dsimp only
    rw [e_Homes_rangesOf_0, hC.1.1.2.2.2.2.1, if_neg (nI_ge hk (by omega)), z_contains (by omega) hk, Option.bind_some, nI_1]
    by_cases q : P k = true
    · rw [if_pos q, if_neg (by decide), r_get22 (by omega), Option.bind_some, (hC.1.2.1 k hk).2.2.2.2.2.2.2.2.2]
      unfold aNear
      have e : zm (fun i => oS A P k i || aRng A k i) n = zm (oS A P (k + 1)) n := zm_congr (fun i _ => by
        show _ = (oS A P k i || (P k && aRng A k i))
        rw [q, Bool.true_and])
      rw [zm_or (by omega), e]
    · have q' : P k = false := by simpa using q
      have e : zm (oS A P k) n = zm (oS A P (k + 1)) n := zm_congr (fun i _ => by
        show _ = (oS A P k i || (P k && aRng A k i))
        rw [q', Bool.false_and, Bool.or_false])
      rw [if_neg q, if_pos rfl, e]
  · try dsimp only
    rw [e_Homes_rangesOf_0, hC.1.1.2.2.2.2.1, if_pos (nI_le0 (by omega))]
theorem x_hopL {A : zAb} {n m T h o : Nat} {c : Int32} (hC : zC σ 0 A n m c T) (ho : o < n) : ∀ d i j, i + d = 12 → d < j → L_Homes_sendings 0 σ j 0 (nI o) (zm (hP A n h i) n) (nI i) = some (hX A n h o i d) := by
  have hn := hC.hn
  intro d
  induction d with
  | zero =>
    intro i j hi hj
    obtain ⟨j, rfl⟩ : ∃ q, j = q + 1 := ⟨j - 1, by omega⟩
    have : i = 12 := by omega
    subst this
    rw [e_Homes_sendings_0, if_pos (show (12 : Int32) ≤ nI 12 by decide)]
    rfl
  | succ d ih =>
    intro i j hi hj
    obtain ⟨j, rfl⟩ : ∃ q, j = q + 1 := ⟨j - 1, by omega⟩
    rw [e_Homes_sendings_0, if_neg (show ¬ (12 : Int32) ≤ nI i from nI_ge (b := 12) (by omega) (by decide)), z_contains (by omega) ho, Option.bind_some, hX]
    by_cases q : hP A n h i o = true
    · rw [if_pos q, if_neg (by decide), if_pos q]
    · rw [if_neg q, if_pos rfl, if_neg q, x_ranges hC, Option.bind_some, zm_or (by omega), nI_1]
      exact ih (i + 1) j (by omega) (by omega)
theorem m_hopN {A : zAb} {n m T o : Nat} (hM : zMr σ A) (hI : aInv A n m T) (ho : o < n) (P : Nat → Bool) (x4 : Int32) : ∀ e k j, k + e = n → L_Model_hops (j + e + 1) 1 (nI o) (zm P n) x4 0 (zm (fun i => P i || oS A P k i) n) (nI k) σ = L_Model_hops j 0 (nI o) (zm (hS A n P) n) (x4 + 1) (if zm (hS A n P) n = zm P n then 0 else 1) 0 0 σ := by
  have hn := hI.1.2.2.1
  have e6 : σ.1 4 81 6 = nI n := (hM.sc (by decide)).trans hI.1.1
  intro e
  induction e with
  | zero =>
    intro k j hk
    have : k = n := by omega
    subst this
    rw [Nat.add_zero, e_Model_hops_1, e6, if_pos (nI_le0 (by omega))]
    show (if zm (hS A k P) k = zm P k then _ else _) = _
    split <;> rfl
  | succ e ih =>
    intro k j hk
    rw [show j + (e + 1) + 1 = (j + e + 1) + 1 by omega, e_Model_hops_1, e6, if_neg (nI_ge (show k < n by omega) (by omega)), zm_get (by omega) (show k < n by omega), nI_1]
    by_cases q : P k = true
    · rw [if_pos q, if_pos rfl, m_near hM hI.1 (show k < 12 by omega), Option.bind_some, zm_or (by omega)]
      have e : zm (fun i => (P i || oS A P k i) || aRng A k i) n = zm (fun i => P i || oS A P (k + 1) i) n := zm_congr (fun i _ => by
        show _ = (P i || (oS A P k i || (P k && aRng A k i)))
        rw [q, Bool.true_and, Bool.or_assoc])
      rw [e]
      exact ih (k + 1) j (by omega)
    · have q' : P k = false := by simpa using q
      rw [if_neg q, if_neg (by decide)]
      have e0 : ∀ x : Int32, x ||| 0 = x := fun x => Int32.or_zero
      have e : zm (fun i => P i || oS A P k i) n = zm (fun i => P i || oS A P (k + 1) i) n := zm_congr (fun i _ => by
        show _ = (P i || (oS A P k i || (P k && aRng A k i)))
        rw [q', Bool.false_and, Bool.or_false])
      rw [e0, e]
      exact ih (k + 1) j (by omega)
theorem m_hopL {A : zAb} {n m T h o : Nat} (hM : zMr σ A) (hI : aInv A n m T) (ho : o < n) : ∀ d i j, i + d = 12 → i + 1 ≤ fb_ct (hP A n h i) n → 20 * d + 5 < j → L_Model_hops j 0 (nI o) (zm (hP A n h i) n) (nI i) 1 0 0 σ = some (hX A n h o i d, σ) := by
  have hn := hI.1.2.2.1
  intro d
  induction d with
  | zero =>
    intro i j hi hc hj
    have := fb_ct_le (hP A n h i) n
    omega
  | succ d ih =>
    intro i j hi hc hj
    obtain ⟨j, rfl⟩ : ∃ q, j = q + n + 4 := ⟨j - n - 4, by omega⟩
    rw [show j + n + 4 = (j + 2 + n + 1) + 1 by omega, e_Model_hops_0, if_neg (by decide), zm_get (by omega) ho, hX]
    by_cases q : hP A n h i o = true
    · rw [if_pos q, if_neg (by decide), if_pos rfl, if_pos q]
    · rw [if_neg q, if_pos rfl, if_neg q]
      have st : zm (hP A n h i) n = zm (fun k => hP A n h i k || oS A (hP A n h i) 0 k) n := zm_congr (fun k _ => by
        show _ = (hP A n h i k || false)
        rw [Bool.or_false])
      have run := m_hopN hM hI ho (hP A n h i) (nI i) n 0 (j + 2) (by omega)
      rw [← st] at run
      have run : L_Model_hops (j + 2 + n + 1) 1 (nI o) (zm (hP A n h i) n) (nI i) 0 (zm (hP A n h i) n) 0 σ = _ := run
      rw [run, nI_1]
      by_cases z : zm (hS A n (hP A n h i)) n = zm (hP A n h i) n
      · rw [if_pos z, e_Model_hops_0, if_pos rfl, z, zm_get (by omega) ho, if_neg q, if_neg (by decide)]
        rw [hX_stat ho d (i + 1) (fun k hk => hS_cg (fun i hi => zm_inj (by omega) z i hi) hk)]
        have e1 := zm_inj (by omega) z o ho
        show hS A n (hP A n h i) o = false
        rw [e1]
        simpa using q
      · rw [if_neg z]
        have g := hP_grow (A := A) (n := n) (h := h) (i := i) z
        exact ih (i + 1) (j + 2) (by omega) (by omega) (by omega)
theorem j_hops (J : zJ σ K) (a b : Int32) : zRI K (F_Law_hops a b σ) (F_Model_hops a b) := by
  obtain ⟨A, n, m, c, T, hT, hC, hM, hp⟩ := id J
  have hn := hC.hn
  have hI := hC.2.2.1
  have hZ := hI.1
  rcases z_idx a (n := n) (by omega) with ⟨h, hh, rfl⟩ | ha
  · rcases z_idx b (n := n) (by omega) with ⟨o, ho, rfl⟩ | hb
    · have bit : (1 : Int32) <<< (nI h &&& 31) = zm (hP A n h 0) n := zm_bit (by omega) hh
      refine zRI.qry (r := hX A n h o 0 12) J hM ?_ (fun s hs _ => ?_)
      · have X : F_Homes_sendings 0 (nI h) (nI o) σ = some (hX A n h o 0 12) := by
          rw [F_Homes_sendings, F_Waves_bit, Option.bind_some, bit]
          exact x_hopL hC ho 12 0 zK (by omega) (zK_lt (by omega))
        simp only [F_Law_hops, F_Waves_hops, x_h1 hC hh, x_h1 hC ho, X, Option.bind_some, bd2, F_Model_fail, z10, z20, z00, if_true, if_false, eq_self, zs_AI, zs_SA]
      · have c1 : 0 + 1 ≤ fb_ct (hP A n h 0) n := fb_ct_pos.mpr ⟨h, hh, by simp [hP]⟩
        have Y := m_hopL (h := h) (hs.t8 0) hI ho 12 0 zK (by omega) c1 (zK_lt (by omega))
        have Y : L_Model_hops zK 0 (nI o) (zm (hP A n h 0) n) 0 1 0 0 (zst s 4 80 8 0) = some (hX A n h o 0 12, zst s 4 80 8 0) := Y
        rw [F_Model_hops, m_isHouse1 (hs.t8 0) hZ hh, Option.bind_some, if_neg (by decide), m_isHouse1 (hs.t8 0) hZ ho, Option.bind_some, if_neg (by decide), bit, Y]
    · refine zRI.no (k := 1) J hM ?_ (by decide) (fun s hs _ => ?_)
      · simp only [F_Law_hops, F_Waves_hops, x_h1 hC hh, x_h0 hC hb, Option.bind_some, bd2, F_Model_fail, z10, z20, z00, if_true, if_false, eq_self, zs_AI, zs_SA]
      · simp only [F_Model_hops, m_isHouse1 (hs.t8 0) hZ hh, m_isHouse0 (hs.t8 0) hZ hb, Option.bind_some, bd2, F_Model_fail, z10, z20, z00, if_true, if_false, eq_self, zs_AI, zs_SA]
  · refine zRI.no (k := 1) J hM ?_ (by decide) (fun s hs _ => ?_)
    · simp only [F_Law_hops, F_Waves_hops, x_h0 hC ha, Option.bind_some, bd2, F_Model_fail, z10, z20, z00, if_true, if_false, eq_self, zs_AI, zs_SA]
    · simp only [F_Model_hops, m_isHouse0 (hs.t8 0) hZ ha, Option.bind_some, bd2, F_Model_fail, z10, z20, z00, if_true, if_false, eq_self, zs_AI, zs_SA]
end JM
