/-! the slots; overlap, meanBattery, near, hops -/
section JS
variable {σ : zSt} {K : Nat}
theorem x_slot {s : Nat} (hs : s < 2) (σ : zSt) : F_Waves_savedIn (nI s) σ = some (2 + s) := by
  rcases (show s = 0 ∨ s = 1 by omega) with rfl | rfl <;> rfl
theorem z_bitS (x : Int32) {s t : Nat} (hs : s < 2) (ht : t < 2) : (((x ||| ((1 : Int32) <<< (nI s &&& 31))) >>> (nI t &&& 31)) &&& 1) = 0 ↔ (t ≠ s ∧ ((x >>> (nI t &&& 31)) &&& 1) = 0) := by
  rw [b_has _ (show t < 32 by omega), b_has _ (show t < 32 by omega), b_or, b_one (show s < 32 by omega) (show t < 32 by omega)]
  by_cases z : t = s <;> simp [z]
theorem j_save (J : zJ σ K) (a : Int32) : zRV K (F_Law_save a σ) (F_Model_save a) := by
  obtain ⟨A, n, m, c, T, hT, hC, hM, hp⟩ := id J
  cases q : zBt a 0 1 with
  | false =>
    refine zRV.no (k := 1) J hM ?_ (fun s hs _ => ?_)
    · simp only [F_Law_save, F_Waves_save, x_in0 q, Option.bind_some, bd2, F_Model_fail, z10, z20, z00, if_true, if_false, eq_self, zs_AI, zs_SA]
    · rw [F_Model_save, m_in0 q, Option.bind_some, if_pos rfl, B_Model_save_15, if_neg (by rw [zst_8]; decide)]
  | true =>
    have q' := q
    obtain ⟨t, -, ht, rfl⟩ := z_rng (lo := 0) (hi := 1) q (by decide) (by decide)
    have t2 : t < 2 := by omega
    obtain ⟨s1, e1, h1⟩ := c_copyFrom (σ := σ) (v := 2 + t) (v2 := 0) (by omega)
    have hS := zC_copy hC h1
    refine ⟨(0, zst s1 4 70 4 (s1.1 4 70 4 ||| ((1 : Int32) <<< (nI t &&& 31)))), ?_, ?_⟩
    · simp only [F_Law_save, F_Waves_save, x_in1 q', x_slot t2, e1, F_Waves_bit, Option.bind_some, bd2, F_Model_fail, z10, z20, z00, if_true, if_false, eq_self, zs_AI, zs_SA]
    · show zOk (F_Model_save (nI t) (zst s1 4 70 4 (s1.1 4 70 4 ||| ((1 : Int32) <<< (nI t &&& 31))))) _
      have o1 : ∀ g o i, g ≠ 2 + t → s1.1 g o i = σ.1 g o i := h1.2.1
      generalize hs2 : zst s1 4 70 4 (s1.1 4 70 4 ||| ((1 : Int32) <<< (nI t &&& 31))) = s2
      have o2 : ∀ g o i, g ≠ 2 + t → ¬ (g = 4 ∧ o = 70 ∧ i = 4) → s2.1 g o i = σ.1 g o i := fun g o i a b => by
        rw [← hs2, zst_at, if_neg b]; exact o1 g o i a
      have e70 : s2.1 4 70 4 = σ.1 4 70 4 ||| ((1 : Int32) <<< (nI t &&& 31)) := by rw [← hs2, zst_at, if_pos ⟨rfl, rfl, rfl⟩, o1 4 70 4 (by omega)]
      have hM2 : zMr s2 A := hM.same (fun i => o2 4 81 i (by omega) (by omega)) (fun i _ => o2 4 80 i (by omega) (by omega))
      rw [F_Model_save, m_in1 q', Option.bind_some, if_neg (by decide), B_Model_save_15, if_pos (zst_8 s2 0), show (2592 : Int32) * nI t = nI (2592 * t) from by rw [show (2592 : Int32) = nI 2592 from rfl, pk_mul]]
      refine zOk.bind (m_copy (σ := zst s2 4 80 8 0) (o := 81) (o4 := 84) (a := 0) (b := 2592 * t) (by decide) (by decide) (show 2592 * t + 2592 ≤ 5184 by omega) (by decide) (by decide)) (fun s3 ⟨k1, k2, k3⟩ => ?_)
      rw [if_pos (inb_n t2 (by decide)), nI_clamp (by omega)]
      refine ⟨_, rfl, ?_, ?_⟩
      · generalize hs4 : zst s3 4 85 t (vp_nar .boolean 1) = s4
        have o4 : ∀ g o i, ¬ (g = 4 ∧ (o = 84 ∨ (o = 85 ∧ i = t) ∨ (o = 80 ∧ i = 8))) → s4.1 g o i = s2.1 g o i := fun g o i a => by
          rw [← hs4, zst_at, if_neg (by omega), k2 g o i (by omega), zst_at, if_neg (by omega)]
        have e85 : s4.1 4 85 t = vp_nar .boolean 1 := by rw [← hs4, zst_at, if_pos ⟨rfl, rfl, rfl⟩]
        have hM4 : zMr s4 A := hM2.same (fun i => o4 4 81 i (by omega)) (fun i _ => o4 4 80 i (by omega))
        refine ⟨A, n, m, c, T, hT, zC_fr hC (fun o i => by rw [o4 0 o i (by omega), o2 0 o i (by omega) (by omega)]), hM4, ?_, ?_, ?_⟩
        · intro u hu
          obtain ⟨g1, g2⟩ := hp.1 u hu
          rw [o4 4 70 4 (by omega), e70, z_bitS _ t2 hu]
          by_cases z : u = t
          · subst z
            rw [e85]
            have nz : ¬ vp_nar .boolean (1 : Int32) = 0 := by decide
            refine ⟨by simp [nz], fun _ => ⟨A, n, m, c, T, hT, zC_fr hS (fun o i => by rw [o4 (2 + u) o i (by omega), ← hs2, zst_at, if_neg (by omega)]), ?_⟩⟩
            refine zMo_fr hM2.1 (fun i hi => ?_)
            show s4.1 4 84 (2592 * u + i) = s2.1 4 81 i
            rw [← hs4, zst_at, if_neg (by omega), k1 i hi, zst_at, if_neg (by omega), Nat.zero_add]
          · have e5 : s4.1 4 85 u = σ.1 4 85 u := by rw [o4 4 85 u (by omega), o2 4 85 u (by omega) (by omega)]
            rw [e5]
            refine ⟨by rw [← g1]; simp [z], fun y => ?_⟩
            obtain ⟨B, n', m', c', T', b1, b2, b3⟩ := g2 y
            refine ⟨B, n', m', c', T', b1, zC_fr b2 (fun o i => by rw [o4 (2 + u) o i (by omega), o2 (2 + u) o i (by omega) (by omega)]), zMo_fr b3 (fun i hi => ?_)⟩
            show s4.1 4 84 (2592 * u + i) = σ.1 4 84 (2592 * u + i)
            rw [← hs4, zst_at, if_neg (by omega), k2 4 84 (2592 * u + i) (by omega), zst_at, if_neg (by omega), o2 4 84 _ (by omega) (by omega)]
        · obtain ⟨⟨l, b1⟩, b2, b3⟩ := hp.2.1
          have oo : ∀ o i, o ≠ 84 → o ≠ 85 → ¬ (o = 80 ∧ i = 8) → ¬ (o = 70 ∧ i = 4) → s4.1 4 o i = σ.1 4 o i := fun o i a b c d => by
            rw [o4 4 o i (by omega), o2 4 o i (by omega) (by omega)]
          exact ⟨⟨l, b1.fr (oo 72 1 (by decide) (by decide) (by omega) (by omega)) (oo 80 10 (by decide) (by decide) (by omega) (by omega)) (fun i => oo 89 i (by decide) (by decide) (by omega) (by omega)) (fun i => oo 74 i (by decide) (by decide) (by omega) (by omega))⟩, by rw [oo 80 16 (by decide) (by decide) (by omega) (by omega), oo 71 1 (by decide) (by decide) (by omega) (by omega)]; exact b2, by rw [oo 80 17 (by decide) (by decide) (by omega) (by omega), oo 71 2 (by decide) (by decide) (by omega) (by omega)]; exact b3⟩
        · intro i hi
          have oo : ∀ o, o = 86 ∨ o = 87 ∨ o = 88 → s4.1 4 o i = σ.1 4 o i := fun o a => by
            rw [o4 4 o i (by omega), o2 4 o i (by omega) (by omega)]
          rw [oo 86 (by decide), oo 87 (by decide), oo 88 (by decide)]
          exact hp.2.2 i hi
      · show (zst s3 4 85 t (vp_nar .boolean 1)).1 4 80 8 = 0
        rw [zst_at, if_neg (by omega), k2 4 80 8 (by omega), zst_8]
theorem j_restore (J : zJ σ K) (a : Int32) : zRV K (F_Law_restore a σ) (F_Model_restore a) := by
  obtain ⟨A, n, m, c, T, hT, hC, hM, hp⟩ := id J
  cases q : zBt a 0 1 with
  | false =>
    refine zRV.no (k := 1) J hM ?_ (fun s hs _ => ?_)
    · simp only [F_Law_restore, F_Waves_restore, x_in0 q, Option.bind_some, bd2, F_Model_fail, z10, z20, z00, if_true, if_false, eq_self, zs_AI, zs_SA]
    · rw [F_Model_restore, m_in0 q, Option.bind_some, if_pos rfl, B_Model_restore_28, if_neg (by rw [zst_8]; decide)]
  | true =>
    have q' := q
    obtain ⟨t, -, ht, rfl⟩ := z_rng (lo := 0) (hi := 1) q (by decide) (by decide)
    have t2 : t < 2 := by omega
    obtain ⟨g1, g2⟩ := hp.1 t t2
    by_cases z : σ.1 4 85 t = 0
    · have con : F_Waves_contains (σ.1 4 70 4) (nI t) σ = some 0 := by rw [F_Waves_contains, if_pos (g1.mpr z)]
      refine zRV.no (k := 2) J hM ?_ (fun s hs es => ?_)
      · simp only [F_Law_restore, F_Waves_restore, x_in1 q', con, Option.bind_some, bd2, F_Model_fail, z10, z20, z00, if_true, if_false, eq_self, zs_AI, zs_SA]
      · rw [F_Model_restore, m_in1 q', Option.bind_some, if_neg (by decide), if_pos (inb_n t2 (by decide)), nI_clamp (by omega), es, if_pos z, B_Model_restore_28, if_neg (by rw [zst_8]; decide)]
    · have con : F_Waves_contains (σ.1 4 70 4) (nI t) σ = some 1 := by rw [F_Waves_contains, if_neg (fun y => z (g1.mp y))]
      obtain ⟨B, n', m', c', T', b1, b2, b3⟩ := g2 z
      obtain ⟨s1, e1, h1⟩ := c_copyFrom (σ := σ) (v := 0) (v2 := 2 + t) (by omega)
      have hS := zC_copy b2 h1
      refine zRV.ok (A' := aW B A) hp hM ?_ (zfX.c0 h1) (zC_aW hS) b1 (Nat.le_refl K) (fun s hs es => ?_)
      · simp only [F_Law_restore, F_Waves_restore, x_in1 q', con, x_slot t2, e1, Option.bind_some, bd2, F_Model_fail, z10, z20, z00, if_true, if_false, eq_self, zs_AI, zs_SA]
      · have e85 : s.1 4 85 t = σ.1 4 85 t := by rw [es]; exact h1.2.1 4 85 t (by decide)
        rw [F_Model_restore, m_in1 q', Option.bind_some, if_neg (by decide), if_pos (inb_n t2 (by decide)), nI_clamp (by omega), e85, if_neg z, B_Model_restore_28, if_pos (zst_8 s 0), show (2592 : Int32) * nI t = nI (2592 * t) from by rw [show (2592 : Int32) = nI 2592 from rfl, pk_mul]]
        refine zOk.bind (m_copy (σ := zst s 4 80 8 0) (o := 84) (o4 := 81) (a := 2592 * t) (b := 0) (by decide) (show 2592 * t + 2592 ≤ 5184 by omega) (by decide) (by decide) (by decide)) (fun s3 ⟨k1, k2, k3⟩ => ?_)
        have hM0 := hs.t8 0
        refine ⟨_, rfl, ⟨?_, ?_, ?_, ?_⟩, (zfN.t8 s 0).tr ⟨fun g o i y => k2 g o i (by omega), fun i _ _ => k2 4 80 i (by omega), k3⟩, ?_⟩
        · refine zMo_aW (zMo_fr b3 (fun i hi => ?_))
          have k := k1 i hi
          rw [Nat.zero_add] at k
          rw [k, zst_at, if_neg (by omega), es]
          exact h1.2.1 4 84 _ (by decide)
        · rw [aW_13, k2 4 80 21 (by omega)]; exact hM0.2.1
        · rw [aW_13, k2 4 80 22 (by omega)]; exact hM0.2.2.1
        · rw [aW_13, k2 4 80 23 (by omega)]; exact hM0.2.2.2
        · rw [k2 4 80 8 (by omega), zst_8]
theorem j_overlap (J : zJ σ K) (a b : Int32) : zRI K (F_Law_overlap a b σ) (F_Model_overlap a b) := by
  obtain ⟨A, n, m, c, T, hT, hC, hM, hp⟩ := id J
  have hn := hC.hn
  have hI := hC.2.2.1
  have hZ := hI.1
  obtain ⟨⟨dd, d1, d2, ed⟩, -⟩ := hI.2.1
  rcases z_idx a (n := n) (by omega) with ⟨h, hh, rfl⟩ | ha
  · rcases z_idx b (n := n) (by omega) with ⟨o, ho, rfl⟩ | hb
    · have e0 : σ.1 0 0 0 = nI dd := hC.1.1.1.trans ed
      generalize hP : (fun t => !aQuiet A h (nI t) && !aQuiet A o (nI t)) = P
      have hPt : ∀ t, P t = (!aQuiet A h (nI t) && !aQuiet A o (nI t)) := fun t => by rw [← hP]
      have X : L_Waves_overlap σ zK 0 (nI h) (nI o) 0 0 = some (.inl (nI (fb_ct P dd))) := by
        refine z_for (fun j k => L_Waves_overlap σ j 0 (nI h) (nI o) (nI (fb_ct P k)) (nI k)) dd _ (fun k hk j => ?_) (fun j => ?_) zK (zK_lt (by omega))
        · try dsimp only
          rw [e_Waves_overlap_0, e0, if_neg (nI_ge hk (by omega)), c_isQuietAt hC.1 hI hh, Option.bind_some, fb_ct_succ, hPt]
          cases q1 : aQuiet A h (nI k) with
          | true => rw [if_neg (by decide), nI_1]; rfl
          | false =>
            rw [if_pos (by decide), c_isQuietAt hC.1 hI ho, Option.bind_some]
            cases q2 : aQuiet A o (nI k) with
            | true => rw [if_neg (by decide), nI_1]; rfl
            | false => rw [if_pos (by decide), nI_1, nI_1]; rfl
        · try dsimp only
          rw [e_Waves_overlap_0, e0, if_pos (nI_le0 (by omega))]
      refine zRI.qry (r := nI (fb_ct P dd)) J hM ?_ (fun s hs _ => ?_)
      · simp only [F_Law_overlap, F_Waves_overlap, x_h1 hC hh, x_h1 hC ho, X, Option.bind_some, bd2, F_Model_fail, z10, z20, z00, if_true, if_false, eq_self, zs_AI, zs_SA]
      · have hs' := hs.t8 0
        have e5 : (zst s 4 80 8 0).1 4 81 5 = nI dd := (hs'.sc (by decide)).trans ed
        have Y : L_Model_overlap zK 0 (nI h) (nI o) 0 0 (zst s 4 80 8 0) = some (nI (fb_ct P dd), zst s 4 80 8 0) := by
          refine z_for (fun j k => L_Model_overlap j 0 (nI h) (nI o) (nI (fb_ct P k)) (nI k) (zst s 4 80 8 0)) dd _ (fun k hk j => ?_) (fun j => ?_) zK (zK_lt (by omega))
          · try dsimp only
            rw [e_Model_overlap_0, e5, if_neg (nI_ge hk (by omega)), m_quietAt hs' (show h < 12 by omega), Option.bind_some, fb_ct_succ, hPt]
            cases q1 : aQuiet A h (nI k) with
            | true => rw [if_neg (by decide), nI_1, Int32.add_zero]; rfl
            | false =>
              rw [if_pos (by decide), m_quietAt hs' (show o < 12 by omega), Option.bind_some]
              cases q2 : aQuiet A o (nI k) with
              | true => rw [if_neg (by decide), nI_1, Int32.add_zero]; rfl
              | false => rw [if_pos (by decide), nI_1, nI_1]; rfl
          · try dsimp only
            rw [e_Model_overlap_0, e5, if_pos (nI_le0 (by omega))]
        rw [F_Model_overlap, m_isHouse1 hs' hZ hh, Option.bind_some, if_neg (by decide), m_isHouse1 hs' hZ ho, Option.bind_some, if_neg (by decide), Y]
    · refine zRI.no (k := 1) J hM ?_ (by decide) (fun s hs _ => ?_)
      · simp only [F_Law_overlap, F_Waves_overlap, x_h1 hC hh, x_h0 hC hb, Option.bind_some, bd2, F_Model_fail, z10, z20, z00, if_true, if_false, eq_self, zs_AI, zs_SA]
      · simp only [F_Model_overlap, m_isHouse1 (hs.t8 0) hZ hh, m_isHouse0 (hs.t8 0) hZ hb, Option.bind_some, bd2, F_Model_fail, z10, z20, z00, if_true, if_false, eq_self, zs_AI, zs_SA]
  · refine zRI.no (k := 1) J hM ?_ (by decide) (fun s hs _ => ?_)
    · simp only [F_Law_overlap, F_Waves_overlap, x_h0 hC ha, Option.bind_some, bd2, F_Model_fail, z10, z20, z00, if_true, if_false, eq_self, zs_AI, zs_SA]
    · simp only [F_Model_overlap, m_isHouse0 (hs.t8 0) hZ ha, Option.bind_some, bd2, F_Model_fail, z10, z20, z00, if_true, if_false, eq_self, zs_AI, zs_SA]
end JS
/-! distances -/
theorem sq_nn {x y : Nat} (hx : x ≤ 99) (hy : y ≤ 99) : ∃ d, d ≤ 9801 ∧ (nI x - nI y) * (nI x - nI y) = nI d := by
  rcases Nat.le_total y x with h | h
  · refine ⟨(x - y) * (x - y), ?_, by rw [pk_sub h, pk_mul]⟩
    exact Nat.mul_le_mul (show x - y ≤ 99 by omega) (show x - y ≤ 99 by omega)
  · refine ⟨(y - x) * (y - x), ?_, ?_⟩
    · exact Nat.mul_le_mul (show y - x ≤ 99 by omega) (show y - x ≤ 99 by omega)
    · have e : nI x - nI y = -(nI (y - x)) := by rw [← pk_sub h, Int32.neg_sub]
      rw [e, Int32.neg_mul, Int32.mul_neg, Int32.neg_neg, pk_mul]
theorem aDist_n {A : zAb} {n m T h o : Nat} (hI : aInv A n m T) (hh : h < n) (ho : o < n) : ∃ d, d ≤ 19602 ∧ aDist A h o = nI d := by
  obtain ⟨⟨x, hx, ex⟩, ⟨y, hy, ey⟩, -⟩ := hI.2.2.1 h hh
  obtain ⟨⟨u, hu, eu⟩, ⟨v, hv, ev⟩, -⟩ := hI.2.2.1 o ho
  obtain ⟨p, hp, ep⟩ := sq_nn hx hu
  obtain ⟨q, hq, eq⟩ := sq_nn hy hv
  refine ⟨p + q, by omega, ?_⟩
  unfold aDist
  rw [ex, ey, eu, ev, ep, eq, nI_add]
section JN
variable {σ : zSt} {K : Nat}
/-- whether a third house is nearer to the house than the other one -/
def aNr (A : zAb) (h o t : Nat) : Bool := !decide (t = h) && (decide (aDist A h t < aDist A h o) || (decide (aDist A h t = aDist A h o) && decide (t < o)))
theorem x_nearer {A : zAb} {n m T h o : Nat} {c : Int32} (hC : zC σ 0 A n m c T) (hh : h < n) (ho : o < n) : F_Homes_nearerThan 0 (nI o) (nI h) σ = some (nI (fb_ct (aNr A h o) n)) := by
  have hn := hC.hn
  have hI := hC.2.2.1
  rw [F_Homes_nearerThan, c_distance hC.1 hI hh ho, Option.bind_some]
  refine z_for (fun j k => L_Homes_nearerThan 0 σ j 0 (nI o) (nI h) (aDist A h o) (nI (fb_ct (aNr A h o) k)) (nI k)) n _ (fun k hk j => ?_) (fun j => ?_) zK (zK_lt (by omega))
  · try dsimp only
    rw [e_Homes_nearerThan_0, hC.1.1.2.2.2.2.1, if_neg (nI_ge hk (by omega)), c_distance hC.1 hI hh hk, Option.bind_some, fb_ct_succ, nI_1]
    unfold aNr
    by_cases z1 : k = h
    · subst z1; rw [if_pos rfl]; simp
    · rw [if_neg (fun y => z1 ((nI_eq (by omega) (by omega)).mp y))]
      by_cases z2 : aDist A h k < aDist A h o
      · rw [if_pos z2]; simp [z1, z2, nI_1]
      · rw [if_neg z2]
        by_cases z3 : aDist A h k = aDist A h o
        · rw [if_pos z3]
          by_cases z4 : k < o
          · rw [if_neg (nI_ge z4 (by omega))]; simp [z1, z2, z3, z4, nI_1]
          · rw [if_pos (nI_le (by omega) (by omega))]; simp [z1, z2, z3, z4]
        · rw [if_neg z3]; simp [z1, z2, z3]
  · try dsimp only
    rw [e_Homes_nearerThan_0, hC.1.1.2.2.2.2.1, if_pos (nI_le0 (by omega))]
theorem m_nearer {A : zAb} {n m T h o : Nat} (hM : zMr σ A) (hI : aInv A n m T) (hh : h < n) (ho : o < n) : F_Model_nearerOnes (nI h) (nI o) σ = some (nI (fb_ct (aNr A h o) n)) := by
  have hn := hI.1.2.2.1
  have e6 : σ.1 4 81 6 = nI n := (hM.sc (by decide)).trans hI.1.1
  rw [F_Model_nearerOnes]
  refine z_for2 (fun j k => L_Model_nearerOnes σ j 0 (nI h) (nI o) (nI (fb_ct (aNr A h o) k)) (nI k) 0) n _ (fun k hk j => ?_) (fun j => ?_) zK (zK_lt (by omega))
  · try dsimp only
    rw [e_Model_nearerOnes_0, e6, if_neg (nI_ge hk (by omega)), m_distance hM (show h < 12 by omega) (show k < 12 by omega), Option.bind_some, m_distance hM (show h < 12 by omega) (show o < 12 by omega), Option.bind_some, fb_ct_succ]
    obtain ⟨p, hp, ep⟩ := aDist_n hI hh hk
    obtain ⟨q, hq, eq⟩ := aDist_n hI hh ho
    have cmp := zTm.c (x := aDist A h k) (y := aDist A h o) ⟨p, by omega, ep⟩ ⟨q, by omega, eq⟩
    unfold aNr
    by_cases z1 : k = h
    · subst z1
      rw [if_pos rfl, e_Model_nearerOnes_1, if_pos rfl, nI_1, Int32.add_zero]; simp
    · rw [if_neg (fun y => z1 ((nI_eq (by omega) (by omega)).mp y))]
      by_cases z2 : aDist A h k < aDist A h o
      · rw [if_pos (cmp.1.mpr z2), e_Model_nearerOnes_1, if_neg (by decide), nI_1, nI_1]; simp [z1, z2]
      · rw [if_neg (fun y => z2 (cmp.1.mp y))]
        by_cases z3 : aDist A h k = aDist A h o
        · rw [if_pos (cmp.2.mpr z3)]
          by_cases z4 : k < o
          · rw [if_neg (nI_ge z4 (by omega)), e_Model_nearerOnes_1, if_neg (by decide), nI_1, nI_1]; simp [z1, z2, z3, z4]
          · rw [if_pos (nI_le (by omega) (by omega)), e_Model_nearerOnes_1, if_pos rfl, nI_1, Int32.add_zero]; simp [z1, z2, z3, z4]
        · rw [if_neg (fun y => z3 (cmp.2.mp y)), e_Model_nearerOnes_1, if_pos rfl, nI_1, Int32.add_zero]; simp [z1, z2, z3]
  · try dsimp only
    rw [e_Model_nearerOnes_0, e6, if_pos (nI_le0 (by omega))]
/-- the first house with so many nearer ones -/
def aNe (A : zAb) (n h : Nat) (x : Int32) : Nat → Nat → Int32
  | _, 0 => -1
  | i, d + 1 => if i = h then aNe A n h x (i + 1) d else if nI (fb_ct (aNr A h i) n) = x then nI i else aNe A n h x (i + 1) d
theorem x_nearL {A : zAb} {n m T h : Nat} {c : Int32} (hC : zC σ 0 A n m c T) (hh : h < n) (x : Int32) : ∀ d i j, i + d = n → d < j → L_Homes_nearest 0 σ j 0 (nI h) x (nI i) = some (aNe A n h x i d) := by
  have hn := hC.hn
  intro d
  induction d with
  | zero =>
    intro i j hi hj
    obtain ⟨j, rfl⟩ : ∃ q, j = q + 1 := ⟨j - 1, by omega⟩
    have : i = n := by omega
    subst this
    rw [e_Homes_nearest_0, hC.1.1.2.2.2.2.1, if_pos (nI_le0 (by omega))]
    rfl
  | succ d ih =>
    intro i j hi hj
    obtain ⟨j, rfl⟩ : ∃ q, j = q + 1 := ⟨j - 1, by omega⟩
    rw [e_Homes_nearest_0, hC.1.1.2.2.2.2.1, if_neg (nI_ge (show i < n by omega) (by omega)), aNe, nI_1]
    by_cases z : i = h
    · rw [if_pos (by rw [z]), if_pos z]
      exact ih (i + 1) j (by omega) (by omega)
    · rw [if_neg (fun y => z ((nI_eq (by omega) (by omega)).mp y)), if_neg z, x_nearer hC hh (show i < n by omega), Option.bind_some]
      by_cases z2 : nI (fb_ct (aNr A h i) n) = x
      · rw [if_pos z2, if_pos z2]
      · rw [if_neg z2, if_neg z2]
        exact ih (i + 1) j (by omega) (by omega)
theorem m_nearL {A : zAb} {n m T h : Nat} (hM : zMr σ A) (hI : aInv A n m T) (hh : h < n) (x : Int32) : ∀ d i j, i + d = n → d < j → L_Model_near j 0 (nI h) x (nI i) σ = some (aNe A n h x i d, σ) := by
  have hn := hI.1.2.2.1
  have e6 : σ.1 4 81 6 = nI n := (hM.sc (by decide)).trans hI.1.1
  intro d
  induction d with
  | zero =>
    intro i j hi hj
    obtain ⟨j, rfl⟩ : ∃ q, j = q + 1 := ⟨j - 1, by omega⟩
    have : i = n := by omega
    subst this
    rw [e_Model_near_0, e6, if_pos (nI_le0 (by omega))]
    rfl
  | succ d ih =>
    intro i j hi hj
    obtain ⟨j, rfl⟩ : ∃ q, j = q + 1 := ⟨j - 1, by omega⟩
    rw [e_Model_near_0, e6, if_neg (nI_ge (show i < n by omega) (by omega)), aNe, nI_1]
    by_cases z : i = h
    · rw [if_pos (by rw [z]), if_pos z]
      exact ih (i + 1) j (by omega) (by omega)
    · rw [if_neg (fun y => z ((nI_eq (by omega) (by omega)).mp y)), if_neg z, m_nearer hM hI hh (show i < n by omega), Option.bind_some]
      by_cases z2 : nI (fb_ct (aNr A h i) n) = x
      · rw [if_pos z2, if_pos z2]
      · rw [if_neg z2, if_neg z2]
        exact ih (i + 1) j (by omega) (by omega)
theorem j_near (J : zJ σ K) (a b : Int32) : zRI K (F_Law_near a b σ) (F_Model_near a b) := by
  obtain ⟨A, n, m, c, T, hT, hC, hM, hp⟩ := id J
  have hn := hC.hn
  have hI := hC.2.2.1
  have hZ := hI.1
  rcases z_idx a (n := n) (by omega) with ⟨h, hh, rfl⟩ | ha
  · by_cases q : 0 ≤ b
    · refine zRI.qry (r := aNe A n h b 0 n) J hM ?_ (fun s hs _ => ?_)
      · have X : F_Homes_nearest 0 (nI h) b σ = some (aNe A n h b 0 n) := by
          rw [F_Homes_nearest]
          exact x_nearL hC hh b n 0 zK (by omega) (zK_lt (by omega))
        rw [F_Law_near, F_Waves_near, x_h1 hC hh, Option.bind_some]
        dsimp only
        rw [if_pos q, X]
        rfl
      · have Y : L_Model_near zK 0 (nI h) b 0 (zst s 4 80 8 0) = some (aNe A n h b 0 n, zst s 4 80 8 0) := m_nearL (hs.t8 0) hI hh b n 0 zK (by omega) (zK_lt (by omega))
        rw [F_Model_near, m_isHouse1 (hs.t8 0) hZ hh, Option.bind_some, if_neg (by decide), if_pos q, Y]
    · refine zRI.no (k := 1) J hM ?_ (by decide) (fun s hs _ => ?_)
      · rw [F_Law_near, F_Waves_near, x_h1 hC hh, Option.bind_some]
        dsimp only
        rw [if_neg q]
        rfl
      · rw [F_Model_near, m_isHouse1 (hs.t8 0) hZ hh, Option.bind_some, if_neg (by decide), if_neg q]
        rfl
  · refine zRI.no (k := 1) J hM ?_ (by decide) (fun s hs _ => ?_)
    · simp only [F_Law_near, F_Waves_near, x_h0 hC ha, Option.bind_some, bd2, F_Model_fail, z10, z20, z00, if_true, if_false, eq_self, zs_AI, zs_SA]
    · simp only [F_Model_near, m_isHouse0 (hs.t8 0) hZ ha, Option.bind_some, bd2, F_Model_fail, z10, z20, z00, if_true, if_false, eq_self, zs_AI, zs_SA]
end JN
