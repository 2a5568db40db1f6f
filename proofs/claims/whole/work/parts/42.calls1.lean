/-! calls of both, one by one -/
theorem zup_id (f : Nat → Nat → Nat → Int32) (g o i : Nat) : zup f g o i (f g o i) = f := by
  funext g' o' j
  unfold zup upd
  by_cases h : (g', o') = (g, o)
  · obtain ⟨rfl, rfl⟩ := Prod.mk.inj h
    rw [if_pos rfl]
    by_cases z : j = i
    · subst z; simp
    · simp [z]
  · rw [if_neg h]
theorem zst_id (σ : zSt) (g o i : Nat) : zst σ g o i (σ.1 g o i) = σ := by
  unfold zst
  rw [zup_id]
theorem x_full (σ : zSt) {v n : Nat} (e : σ.1 v 3 0 = nI n) (hn : n ≤ 12) : F_Homes_isFull v σ = some (if n < 12 then 0 else 1) := by
  rw [F_Homes_isFull, e]
  by_cases q : n < 12
  · rw [if_pos (show nI n < (12 : Int32) from nI_lt (b := 12) q (by decide)), if_pos q]
  · rw [if_neg (show ¬ nI n < (12 : Int32) from nI_nlt (b := 12) (by omega) (by omega)), if_neg q]
theorem x_fullw (σ : zSt) {v m : Nat} (e : σ.1 v 24 0 = nI m) (hm : m ≤ 20) : F_Tidings_isFull v σ = some (if m < 20 then 0 else 1) := by
  rw [F_Tidings_isFull, e]
  by_cases q : m < 20
  · rw [if_pos (show nI m < (20 : Int32) from nI_lt (b := 20) q (by decide)), if_pos q]
  · rw [if_neg (show ¬ nI m < (20 : Int32) from nI_nlt (b := 20) (by omega) (by omega)), if_neg q]
theorem x_elem (j : Nat) {k : Nat} (hk : k < 5) (σ : zSt) : F_Waves_element j (nI k) σ = some ((zfv j).getD k 0) := by
  rw [F_Waves_element, if_neg (nI_pos (by omega)), if_neg (show ¬ (5 : Int32) ≤ nI k from nI_ge (b := 5) hk (by decide)), if_pos (inb_n hk (by decide)), nI_clamp (by omega)]
theorem zBt_m1 {a : Int32} {e : Nat} (he : e < 2 ^ 31) : zBt a (-1) (nI e) = (zBt a 0 (nI e) || decide (a = -1)) := by
  unfold zBt
  by_cases q : a = -1
  · subst q
    have h1 : ¬ (-1 : Int32) < -1 := by decide
    have h2 : ¬ nI e < -1 := by
      rw [Int32.lt_iff_toInt_lt, nI_toInt he]
      have : (-1 : Int32).toInt = -1 := by decide
      omega
    simp [h1, h2]
  · have h1 : a < -1 ↔ a < 0 := by
      rw [Int32.lt_iff_toInt_lt, Int32.lt_iff_toInt_lt]
      have e1 : (-1 : Int32).toInt = -1 := by decide
      have e0 : (0 : Int32).toInt = 0 := by decide
      have ne : a.toInt ≠ -1 := fun z => q (Int32.toInt_inj.mp (z.trans e1.symm))
      omega
    simp [q, h1]
section J1
variable {σ : zSt} {K : Nat}
theorem j_source (J : zJ σ K) (a b : Int32) : zRI K (F_Law_source a b σ) (F_Model_source a b) := by
  obtain ⟨A, n, m, c, T, hT, hC, hM, hp⟩ := id J
  have hn := hC.hn
  have hm := hC.hm
  have hZ := hC.2.2.1.1
  rcases z_idx a (n := n) (by omega) with ⟨h, hh, rfl⟩ | ha
  · rcases z_idx b (n := m) (by omega) with ⟨w, hw, rfl⟩ | hb
    · have g1 := (hC.1.2.2.2.2.2 h w (by omega) hw).1
      rw [if_pos hh] at g1
      refine zRI.qry (r := A 5 h w) J hM ?_ (fun s hs _ => ?_)
      · simp only [F_Law_source, F_Waves_source, x_h1 hC hh, x_w1 hC hw, r_cell, r_get55 (show 20 * h + w < 240 by omega), g1, Option.bind_some, bd2, F_Model_fail, z10, z20, z00, if_true, if_false, eq_self, zs_AI, zs_SA]
      · simp only [F_Model_source, m_isHouse1 (hs.t8 0) hZ hh, m_isNews1 (hs.t8 0) hZ hw, m_pair2 (hs.t8 0) (show h < 12 by omega) (show w < 20 by omega), Option.bind_some, bd2, F_Model_fail, z10, z20, z00, if_true, if_false, eq_self, zs_AI, zs_SA]
    · refine zRI.no (k := 1) J hM ?_ (by decide) (fun s hs _ => ?_)
      · simp only [F_Law_source, F_Waves_source, x_h1 hC hh, x_w0 hC hb, Option.bind_some, bd2, F_Model_fail, z10, z20, z00, if_true, if_false, eq_self, zs_AI, zs_SA]
      · simp only [F_Model_source, m_isHouse1 (hs.t8 0) hZ hh, m_isNews0 (hs.t8 0) hZ hb, Option.bind_some, bd2, F_Model_fail, z10, z20, z00, if_true, if_false, eq_self, zs_AI, zs_SA]
  · refine zRI.no (k := 1) J hM ?_ (by decide) (fun s hs _ => ?_)
    · simp only [F_Law_source, F_Waves_source, x_h0 hC ha, Option.bind_some, bd2, F_Model_fail, z10, z20, z00, if_true, if_false, eq_self, zs_AI, zs_SA]
    · simp only [F_Model_source, m_isHouse0 (hs.t8 0) hZ ha, Option.bind_some, bd2, F_Model_fail, z10, z20, z00, if_true, if_false, eq_self, zs_AI, zs_SA]
theorem j_owes (J : zJ σ K) (a b : Int32) : zRI K (F_Law_owes a b σ) (F_Model_owes a b) := by
  obtain ⟨A, n, m, c, T, hT, hC, hM, hp⟩ := id J
  have hn := hC.hn
  have hm := hC.hm
  have hZ := hC.2.2.1.1
  rcases z_idx a (n := n) (by omega) with ⟨h, hh, rfl⟩ | ha
  · rcases z_idx b (n := m) (by omega) with ⟨w, hw, rfl⟩ | hb
    · refine zRI.qry (r := aOws A n h w) J hM ?_ (fun s hs _ => ?_)
      · simp only [F_Law_owes, F_Waves_owes, x_h1 hC hh, x_w1 hC hw, c_owedBy hC.1 hC.2.2.1 hh hw, Option.bind_some, bd2, F_Model_fail, z10, z20, z00, if_true, if_false, eq_self, zs_AI, zs_SA]
      · simp only [F_Model_owes, m_isHouse1 (hs.t8 0) hZ hh, m_isNews1 (hs.t8 0) hZ hw, show F_Model_owedBy (nI h) (nI w) (zst s 4 80 8 0) = some (aOws A n h w) from m_owedBy (hs.t8 0) hZ (show h < 12 by omega) (show w < 20 by omega), Option.bind_some, bd2, F_Model_fail, z10, z20, z00, if_true, if_false, eq_self, zs_AI, zs_SA]
    · refine zRI.no (k := 1) J hM ?_ (by decide) (fun s hs _ => ?_)
      · simp only [F_Law_owes, F_Waves_owes, x_h1 hC hh, x_w0 hC hb, Option.bind_some, bd2, F_Model_fail, z10, z20, z00, if_true, if_false, eq_self, zs_AI, zs_SA]
      · simp only [F_Model_owes, m_isHouse1 (hs.t8 0) hZ hh, m_isNews0 (hs.t8 0) hZ hb, Option.bind_some, bd2, F_Model_fail, z10, z20, z00, if_true, if_false, eq_self, zs_AI, zs_SA]
  · refine zRI.no (k := 1) J hM ?_ (by decide) (fun s hs _ => ?_)
    · simp only [F_Law_owes, F_Waves_owes, x_h0 hC ha, Option.bind_some, bd2, F_Model_fail, z10, z20, z00, if_true, if_false, eq_self, zs_AI, zs_SA]
    · simp only [F_Model_owes, m_isHouse0 (hs.t8 0) hZ ha, Option.bind_some, bd2, F_Model_fail, z10, z20, z00, if_true, if_false, eq_self, zs_AI, zs_SA]
theorem j_errorCode (J : zJ σ K) : F_Waves_errorCode σ = some (σ.1 4 71 1) ∧ F_Model_errorCode σ = some (σ.1 4 71 1, zst σ 4 80 8 0) ∧ zJ (zst σ 4 80 8 0) K := by
  refine ⟨rfl, ?_, J.t8 0⟩
  obtain ⟨A, n, m, c, T, hT, hC, hM, hp⟩ := J
  rw [F_Model_errorCode, zst_at, if_neg (by omega), hp.2.1.2.1]
theorem j_errorPosition (J : zJ σ K) : F_Waves_errorPosition σ = some (σ.1 4 71 2) ∧ F_Model_errorPosition σ = some (σ.1 4 71 2, zst σ 4 80 8 0) ∧ zJ (zst σ 4 80 8 0) K := by
  refine ⟨rfl, ?_, J.t8 0⟩
  obtain ⟨A, n, m, c, T, hT, hC, hM, hp⟩ := J
  rw [F_Model_errorPosition, zst_at, if_neg (by omega), hp.2.1.2.2]
theorem j_charge (J : zJ σ K) (a b : Int32) : zRI K (F_Law_charge a b σ) (F_Model_charge a b) := by
  obtain ⟨A, n, m, c, T, hT, hC, hM, hp⟩ := id J
  have hn := hC.hn
  have hZ := hC.2.2.1.1
  rcases z_idx a (n := n) (by omega) with ⟨h, hh, rfl⟩ | ha
  · cases q : zBt b (-999) 999 with
    | true =>
      have hv : ∃ x, x ≤ 999 ∧ (if (0 : Int32) < (if A 1 h 3 + b < 999 then A 1 h 3 + b else 999) then (if A 1 h 3 + b < 999 then A 1 h 3 + b else 999) else 0) = nI x := by
        by_cases q1 : A 1 h 3 + b < 999
        · rw [if_pos q1]
          by_cases q2 : (0 : Int32) < A 1 h 3 + b
          · rw [if_pos q2]
            obtain ⟨j, hj, e⟩ := nI_of (x := A 1 h 3 + b) (fun z => Int32.lt_irrefl (Int32.lt_trans q2 z))
            refine ⟨j, ?_, e⟩
            rw [e] at q1
            have := (nI_ltI (b := 999) hj (by decide)).mp q1
            omega
          · rw [if_neg q2]; exact ⟨0, by decide, rfl⟩
        · rw [if_neg q1, if_pos (by decide)]; exact ⟨999, by decide, rfl⟩
      obtain ⟨x, hx, ex⟩ := hv
      refine zRI.ok (r := nI x) hp hM ?_ (zfX.v0 (zfV.st 0 σ 11 h (nI x))) (zC_bat hC h hx) hT (Nat.le_refl K) (fun s hs _ => ?_)
      · simp only [F_Law_charge, F_Waves_charge, x_h1 hC hh, x_in1 q, c_addBat hC.1 hC.2.2.1 hh, ex, r_get10 (show h < 12 by omega), Option.bind_some, bd2, F_Model_fail, z10, z20, z00, if_true, if_false, eq_self, zs_AI, zs_SA]
        rw [zst_at, if_pos ⟨rfl, rfl, rfl⟩]
      · simp only [F_Model_charge, m_isHouse1 (hs.t8 0) hZ hh, m_in1 q, m_of3 (hs.t8 0) (show h < 12 by omega), ex, Option.bind_some, bd2, F_Model_fail, z10, z20, z00, if_true, if_false, eq_self, zs_AI, zs_SA]
        refine zOk.bind (m_put3 (hs.t8 0) (show h < 12 by omega) _) (fun s2 ⟨h1, h2⟩ => ?_)
        rw [m_of3 h1 (show h < 12 by omega), Option.bind_some, aup_s]
        exact ⟨_, rfl, rfl, h1, (zfN.t8 s 0).tr (zfN.m h2), (h2.2.1 8 (by decide)).trans (zst_8 s 0)⟩
    | false =>
      refine zRI.no (k := 2) J hM ?_ (by decide) (fun s hs _ => ?_)
      · simp only [F_Law_charge, F_Waves_charge, x_h1 hC hh, x_in0 q, Option.bind_some, bd2, F_Model_fail, z10, z20, z00, if_true, if_false, eq_self, zs_AI, zs_SA]
      · simp only [F_Model_charge, m_isHouse1 (hs.t8 0) hZ hh, m_in0 q, Option.bind_some, bd2, F_Model_fail, z10, z20, z00, if_true, if_false, eq_self, zs_AI, zs_SA]
  · refine zRI.no (k := 1) J hM ?_ (by decide) (fun s hs _ => ?_)
    · simp only [F_Law_charge, F_Waves_charge, x_h0 hC ha, Option.bind_some, bd2, F_Model_fail, z10, z20, z00, if_true, if_false, eq_self, zs_AI, zs_SA]
    · simp only [F_Model_charge, m_isHouse0 (hs.t8 0) hZ ha, Option.bind_some, bd2, F_Model_fail, z10, z20, z00, if_true, if_false, eq_self, zs_AI, zs_SA]
theorem j_seed (J : zJ σ K) (a : Int32) : zRV K (F_Law_seed a σ) (F_Model_seed a) := by
  obtain ⟨A, n, m, c, T, hT, hC, hM, hp⟩ := id J
  cases q : zBt a 0 1000002 with
  | true =>
    obtain ⟨x, -, hx, rfl⟩ := z_rng (lo := 0) (hi := 1000002) q (by decide) (by decide)
    refine zRV.ok hp hM ?_ (zfX.v0 (zfV.st 0 σ 0 2 (nI x))) (zC_lot hC (x := x) (by omega)) hT (Nat.le_refl K) (fun s hs _ => ?_)
    · simp only [F_Law_seed, F_Waves_seed, x_in1 q, Option.bind_some, bd2, F_Model_fail, z10, z20, z00, if_true, if_false, eq_self, zs_AI, zs_SA]
    · refine ⟨zst (zst s 4 80 8 0) 4 81 9 (nI x), ?_, (hs.t8 0).ps (by decide) _, (zfN.t8 s 0).tr (zfN.m (zfM.a81 _ 9 _)), ?_⟩
      · rw [F_Model_seed, m_in1 q, Option.bind_some, if_neg (by decide), B_Model_seed_16, if_pos (zst_8 s 0)]
      · rw [zst_at, if_neg (by omega), zst_8]
  | false =>
    refine zRV.no (k := 1) J hM ?_ (fun s hs _ => ?_)
    · simp only [F_Law_seed, F_Waves_seed, x_in0 q, Option.bind_some, bd2, F_Model_fail, z10, z20, z00, if_true, if_false, eq_self, zs_AI, zs_SA]
    · rw [F_Model_seed, m_in0 q, Option.bind_some, if_pos rfl, B_Model_seed_16, if_neg (by rw [zst_8]; decide), zst_id]
theorem j_set (J : zJ σ K) (a b : Int32) : zRI K (F_Law_set a b σ) (F_Model_set a b) := by
  obtain ⟨A, n, m, c, T, hT, hC, hM, hp⟩ := id J
  have hkn := hp.2.2
  cases q : zBt a 0 4 with
  | true =>
    obtain ⟨k, -, hk, rfl⟩ := z_rng (lo := 0) (hi := 4) q (by decide) (by decide)
    have hk5 : k < 5 := by omega
    obtain ⟨-, k1, k2⟩ := hkn k hk5
    cases q2 : zBt b ((zfv 1).getD k 0) ((zfv 2).getD k 0) with
    | true =>
      obtain ⟨b1, b2⟩ := zBt_t q2
      have h0 : ¬ (zfv 1).getD k 0 < 0 := by
        rcases (show k = 0 ∨ k = 1 ∨ k = 2 ∨ k = 3 ∨ k = 4 by omega) with rfl | rfl | rfl | rfl | rfl <;> decide
      obtain ⟨x, hx, rfl⟩ := nI_of (x := b) (fun z => b1 (Int32.lt_of_lt_of_le z (Int32.not_lt.mp h0)))
      have e1 := hC.1.1.2.2.2.2.2.2 k hk5
      refine zRI.ok (r := A 0 k 0) hp hM ?_ (zfX.v0 (zfV.st 0 σ 2 k (nI x))) (zC_set hC hk5 (Int32.not_lt.mp b2) hx) hT (Nat.le_refl K) (fun s hs es => ?_)
      · simp only [F_Law_set, F_Waves_set, x_in1 q, x_elem 1 hk5, x_elem 2 hk5, x_in1 q2, r_get1 hk5, r_put1 hk5, e1, Option.bind_some, bd2, F_Model_fail, z10, z20, z00, if_true, if_false, eq_self, zs_AI, zs_SA]
      · have s1 : (zst s 4 80 8 0).1 4 87 k = (zfv 1).getD k 0 := by rw [zst_at, if_neg (by omega), es, zst_at, if_neg (by omega)]; exact k1
        have s2 : (zst s 4 80 8 0).1 4 88 k = (zfv 2).getD k 0 := by rw [zst_at, if_neg (by omega), es, zst_at, if_neg (by omega)]; exact k2
        refine ⟨(A 0 k 0, zst (zst s 4 80 8 0) 4 81 k (nI x)), ?_, rfl, (hs.t8 0).ps (by omega) _, (zfN.t8 s 0).tr (zfN.m (zfM.a81 _ k _)), ?_⟩
        · rw [F_Model_set, m_in1 q, Option.bind_some, if_neg (by decide), if_pos (inb_n hk5 (by decide)), if_pos (inb_n hk5 (by decide)), nI_clamp (by omega), s1, s2, m_in1 q2, Option.bind_some, if_neg (by decide), if_pos (inb_n (show k < 2592 by omega) (by decide)), if_pos (inb_n (show k < 2592 by omega) (by decide)), (hs.t8 0).sc (show k < 12 by omega)]
        · show (zst (zst s 4 80 8 0) 4 81 k (nI x)).1 4 80 8 = 0
          rw [zst_at, if_neg (by omega), zst_8]
    | false =>
      refine zRI.no (k := 1) J hM ?_ (by decide) (fun s hs es => ?_)
      · simp only [F_Law_set, F_Waves_set, x_in1 q, x_elem 1 hk5, x_elem 2 hk5, x_in0 q2, Option.bind_some, bd2, F_Model_fail, z10, z20, z00, if_true, if_false, eq_self, zs_AI, zs_SA]
      · have s1 : (zst s 4 80 8 0).1 4 87 k = (zfv 1).getD k 0 := by rw [zst_at, if_neg (by omega), es]; exact k1
        have s2 : (zst s 4 80 8 0).1 4 88 k = (zfv 2).getD k 0 := by rw [zst_at, if_neg (by omega), es]; exact k2
        rw [F_Model_set, m_in1 q, Option.bind_some, if_neg (by decide), if_pos (inb_n hk5 (by decide)), if_pos (inb_n hk5 (by decide)), nI_clamp (by omega), s1, s2, m_in0 q2, Option.bind_some, if_pos rfl]
        rfl
  | false =>
    refine zRI.no (k := 1) J hM ?_ (by decide) (fun s hs _ => ?_)
    · simp only [F_Law_set, F_Waves_set, x_in0 q, Option.bind_some, bd2, F_Model_fail, z10, z20, z00, if_true, if_false, eq_self, zs_AI, zs_SA]
    · simp only [F_Model_set, m_in0 q, Option.bind_some, bd2, F_Model_fail, z10, z20, z00, if_true, if_false, eq_self, zs_AI, zs_SA]
theorem j_addHouse (J : zJ σ K) (a b d e f : Int32) : zRI K (F_Law_addHouse a b d e f σ) (F_Model_addHouse a b d e f) := by
  obtain ⟨A, n, m, c, T, hT, hC, hM, hp⟩ := id J
  have hn := hC.hn
  cases q1 : zBt a 0 99 with
  | false =>
    refine zRI.no (k := 1) J hM ?_ (by decide) (fun s hs _ => ?_)
    · simp only [F_Law_addHouse, F_Waves_addHouse, x_in0 q1, Option.bind_some, bd2, F_Model_fail, z10, z20, z00, if_true, if_false, eq_self, zs_AI, zs_SA]
    · simp only [F_Model_addHouse, m_in0 q1, Option.bind_some, bd2, F_Model_fail, z10, z20, z00, if_true, if_false, eq_self, zs_AI, zs_SA]
  | true =>
  cases q2 : zBt b 0 99 with
  | false =>
    refine zRI.no (k := 1) J hM ?_ (by decide) (fun s hs _ => ?_)
    · simp only [F_Law_addHouse, F_Waves_addHouse, x_in1 q1, x_in0 q2, Option.bind_some, bd2, F_Model_fail, z10, z20, z00, if_true, if_false, eq_self, zs_AI, zs_SA]
    · simp only [F_Model_addHouse, m_in1 q1, m_in0 q2, Option.bind_some, bd2, F_Model_fail, z10, z20, z00, if_true, if_false, eq_self, zs_AI, zs_SA]
  | true =>
  cases q3 : zBt d 0 150 with
  | false =>
    refine zRI.no (k := 1) J hM ?_ (by decide) (fun s hs _ => ?_)
    · simp only [F_Law_addHouse, F_Waves_addHouse, x_in1 q1, x_in1 q2, x_in0 q3, Option.bind_some, bd2, F_Model_fail, z10, z20, z00, if_true, if_false, eq_self, zs_AI, zs_SA]
    · simp only [F_Model_addHouse, m_in1 q1, m_in1 q2, m_in0 q3, Option.bind_some, bd2, F_Model_fail, z10, z20, z00, if_true, if_false, eq_self, zs_AI, zs_SA]
  | true =>
  cases q4 : zBt e 0 999 with
  | false =>
    refine zRI.no (k := 1) J hM ?_ (by decide) (fun s hs _ => ?_)
    · simp only [F_Law_addHouse, F_Waves_addHouse, x_in1 q1, x_in1 q2, x_in1 q3, x_in0 q4, Option.bind_some, bd2, F_Model_fail, z10, z20, z00, if_true, if_false, eq_self, zs_AI, zs_SA]
    · simp only [F_Model_addHouse, m_in1 q1, m_in1 q2, m_in1 q3, m_in0 q4, Option.bind_some, bd2, F_Model_fail, z10, z20, z00, if_true, if_false, eq_self, zs_AI, zs_SA]
  | true =>
  cases q5 : zBt f 1 9 with
  | false =>
    refine zRI.no (k := 1) J hM ?_ (by decide) (fun s hs _ => ?_)
    · simp only [F_Law_addHouse, F_Waves_addHouse, x_in1 q1, x_in1 q2, x_in1 q3, x_in1 q4, x_in0 q5, Option.bind_some, bd2, F_Model_fail, z10, z20, z00, if_true, if_false, eq_self, zs_AI, zs_SA]
    · simp only [F_Model_addHouse, m_in1 q1, m_in1 q2, m_in1 q3, m_in1 q4, m_in0 q5, Option.bind_some, bd2, F_Model_fail, z10, z20, z00, if_true, if_false, eq_self, zs_AI, zs_SA]
  | true =>
    have en := hC.1.1.2.2.2.2.1
    have eA := hC.2.2.1.1.1
    by_cases h12 : n < 12
    · have fl : F_Homes_isFull 0 σ = some 0 := by rw [x_full σ en hn, if_pos h12]
      have q1' := q1
      have q2' := q2
      have q3' := q3
      have q4' := q4
      have q5' := q5
      obtain ⟨x, -, hx, rfl⟩ := z_rng (lo := 0) (hi := 99) q1 (by decide) (by decide)
      obtain ⟨y, -, hy, rfl⟩ := z_rng (lo := 0) (hi := 99) q2 (by decide) (by decide)
      obtain ⟨r, -, hr, rfl⟩ := z_rng (lo := 0) (hi := 150) q3 (by decide) (by decide)
      obtain ⟨t, -, ht, rfl⟩ := z_rng (lo := 0) (hi := 999) q4 (by decide) (by decide)
      obtain ⟨u, hu1, hu2, rfl⟩ := z_rng (lo := 1) (hi := 9) q5 (by decide) (by decide)
      obtain ⟨⟨r0, σ1⟩, e1, h1, h2, h3⟩ := c_addHouse hC h12 hx hy hr ht ⟨hu1, hu2⟩
      have h1 : r0 = nI n := h1
      subst h1
      refine zRI.ok (r := nI n) hp hM ?_ (zfX.v0 h3) h2 hT (Nat.le_refl K) (fun s hs _ => ?_)
      · simp only [F_Law_addHouse, F_Waves_addHouse, x_in1 q1', x_in1 q2', x_in1 q3', x_in1 q4', x_in1 q5', fl, e1, Option.bind_some, bd2, F_Model_fail, z10, z20, z00, if_true, if_false, eq_self, zs_AI, zs_SA]
      · have e6 : ¬ (zst s 4 80 8 0).1 4 81 6 = 12 := by
          rw [(hs.t8 0).sc (by decide), eA]
          exact fun z => absurd ((nI_eq (b := 12) (by omega) (by decide)).mp z) (by omega)
        rw [F_Model_addHouse, m_in1 q1', Option.bind_some, if_neg (by decide), m_in1 q2', Option.bind_some, if_neg (by decide), m_in1 q3', Option.bind_some, if_neg (by decide), m_in1 q4', Option.bind_some, if_neg (by decide), m_in1 q5', Option.bind_some, if_neg (by decide), if_neg e6]
        refine zOk.bd2 (m_appendHouse (hs.t8 0) eA h12 _ _ _ _ _) (fun r2 s2 ⟨g1, g2, g3⟩ => ⟨_, rfl, g1, g2, (zfN.t8 s 0).tr (zfN.m g3), ?_⟩)
        exact (g3.2.1 8 (by decide)).trans (zst_8 s 0)
    · have fl : F_Homes_isFull 0 σ = some 1 := by rw [x_full σ en hn, if_neg h12]
      refine zRI.no (k := 2) J hM ?_ (by decide) (fun s hs _ => ?_)
      · simp only [F_Law_addHouse, F_Waves_addHouse, x_in1 q1, x_in1 q2, x_in1 q3, x_in1 q4, x_in1 q5, fl, Option.bind_some, bd2, F_Model_fail, z10, z20, z00, if_true, if_false, eq_self, zs_AI, zs_SA]
      · have e6 : (zst s 4 80 8 0).1 4 81 6 = 12 := by
          rw [(hs.t8 0).sc (by decide), eA, show n = 12 by omega]
          rfl
        simp only [F_Model_addHouse, m_in1 q1, m_in1 q2, m_in1 q3, m_in1 q4, m_in1 q5, e6, Option.bind_some, bd2, F_Model_fail, z10, z20, z00, if_true, if_false, eq_self, zs_AI, zs_SA]
theorem j_tell (J : zJ σ K) (a b : Int32) : zRI K (F_Law_tell a b σ) (F_Model_tell a b) := by
  obtain ⟨A, n, m, c, T, hT, hC, hM, hp⟩ := id J
  have hn := hC.hn
  have hm := hC.hm
  have hZ := hC.2.2.1.1
  have ew := hC.1.1.2.2.2.2.2.1
  have eA := hZ.2.1
  rcases z_idx a (n := n) (by omega) with ⟨h, hh, rfl⟩ | ha
  · cases q : zBt b 0 99 with
    | true =>
      by_cases h20 : m < 20
      · have fl : F_Tidings_isFull 0 σ = some 0 := by rw [x_fullw σ ew hm, if_pos h20]
        obtain ⟨⟨r0, σ1⟩, e1, h1, h2, h3⟩ := c_addNews hC h20 hh b
        have h1 : r0 = nI m := h1
        subst h1
        refine zRI.ok (r := nI m) hp hM ?_ (zfX.v0 h3) h2 hT (Nat.le_refl K) (fun s hs _ => ?_)
        · simp only [F_Law_tell, F_Waves_tell, x_h1 hC hh, x_in1 q, fl, e1, Option.bind_some, bd2, F_Model_fail, z10, z20, z00, if_true, if_false, eq_self, zs_AI, zs_SA]
        · have e7 : ¬ (zst s 4 80 8 0).1 4 81 7 = 20 := by
            rw [(hs.t8 0).sc (by decide), eA]
            exact fun z => absurd ((nI_eq (b := 20) (by omega) (by decide)).mp z) (by omega)
          rw [F_Model_tell, m_isHouse1 (hs.t8 0) hZ hh, Option.bind_some, if_neg (by decide), m_in1 q, Option.bind_some, if_neg (by decide), if_neg e7]
          refine zOk.bd2 (m_appendNews (hs.t8 0) eA h20 (show h < 12 by omega) _) (fun r2 s2 ⟨g1, g2, g3⟩ => ⟨_, rfl, g1, g2, (zfN.t8 s 0).tr (zfN.m g3), ?_⟩)
          exact (g3.2.1 8 (by decide)).trans (zst_8 s 0)
      · have fl : F_Tidings_isFull 0 σ = some 1 := by rw [x_fullw σ ew hm, if_neg h20]
        refine zRI.qry (r := -2) J hM ?_ (fun s hs _ => ?_)
        · simp only [F_Law_tell, F_Waves_tell, x_h1 hC hh, x_in1 q, fl, Option.bind_some, bd2, F_Model_fail, z10, z20, z00, if_true, if_false, eq_self, zs_AI, zs_SA]
        · have e7 : (zst s 4 80 8 0).1 4 81 7 = 20 := by
            rw [(hs.t8 0).sc (by decide), eA, show m = 20 by omega]
            rfl
          simp only [F_Model_tell, m_isHouse1 (hs.t8 0) hZ hh, m_in1 q, e7, Option.bind_some, bd2, F_Model_fail, z10, z20, z00, if_true, if_false, eq_self, zs_AI, zs_SA]
    | false =>
      refine zRI.no (k := 2) J hM ?_ (by decide) (fun s hs _ => ?_)
      · simp only [F_Law_tell, F_Waves_tell, x_h1 hC hh, x_in0 q, Option.bind_some, bd2, F_Model_fail, z10, z20, z00, if_true, if_false, eq_self, zs_AI, zs_SA]
      · simp only [F_Model_tell, m_isHouse1 (hs.t8 0) hZ hh, m_in0 q, Option.bind_some, bd2, F_Model_fail, z10, z20, z00, if_true, if_false, eq_self, zs_AI, zs_SA]
  · refine zRI.no (k := 1) J hM ?_ (by decide) (fun s hs _ => ?_)
    · simp only [F_Law_tell, F_Waves_tell, x_h0 hC ha, Option.bind_some, bd2, F_Model_fail, z10, z20, z00, if_true, if_false, eq_self, zs_AI, zs_SA]
    · simp only [F_Model_tell, m_isHouse0 (hs.t8 0) hZ ha, Option.bind_some, bd2, F_Model_fail, z10, z20, z00, if_true, if_false, eq_self, zs_AI, zs_SA]
theorem j_correct (J : zJ σ K) (a b d : Int32) : zRI K (F_Law_correct a b d σ) (F_Model_correct a b d) := by
  obtain ⟨A, n, m, c, T, hT, hC, hM, hp⟩ := id J
  have hn := hC.hn
  have hm := hC.hm
  have hZ := hC.2.2.1.1
  rcases z_idx a (n := n) (by omega) with ⟨h, hh, rfl⟩ | ha
  · rcases z_idx b (n := m) (by omega) with ⟨w, hw, rfl⟩ | hb
    · cases q : zBt d 0 99 with
      | true =>
        have g38 : F_Row_get 0 37 (nI w) σ = some (zm (fun h => decide (A 3 h w = 1)) n) := by
          rw [r_get37 (by omega), (hC.1.2.2.1 w hw).2.2.2.2.2.2.1]
        have kno : ∀ s, zMr s A → F_Model_knows (nI h) (nI w) 0 s = some (bI (decide (A 3 h w = 1))) := fun s hs => m_knows (s := 0) hs (by omega) (by omega) (by decide)
        by_cases k3 : A 3 h w = 1
        · have con : F_Waves_contains (zm (fun h => decide (A 3 h w = 1)) n) (nI h) σ = some 1 := by rw [z_contains (by omega) hh]; simp [k3]
          by_cases k4 : A 2 w 4 = -1
          · have cor : F_Tidings_isCorrected 0 (nI w) σ = some 0 := by rw [c_isCorrected hC.1 hC.2.2.1 hw]; simp [aCor, k4, bI]
            obtain ⟨σ1, e1, h2, h3⟩ := c_addCorr hC hh hw k4 d
            generalize hA' : aLearn (aCo A h w d) n h w = A' at h2
            have o1 : F_Village_owedBy 0 (nI h) (nI w) σ1 = some (zm (fun o => aOw A' h o w) n) := c_owedBy h2.1 h2.2.2.1 hh hw
            have o2 := z_bitCount (fun o => aOw A' h o w) (n := n) (by omega)
            refine zRI.ok (r := nI (fb_ct (fun o => aOw A' h o w) n)) hp hM ?_ (zfX.v0 h3) h2 hT (Nat.le_refl K) (fun s hs _ => ?_)
            · simp only [F_Law_correct, F_Waves_correct, x_h1 hC hh, x_w1 hC hw, x_in1 q, g38, con, cor, e1, o1, o2, Option.bind_some, bd2, F_Model_fail, z10, z20, z00, if_true, if_false, eq_self, zs_AI, zs_SA]
            · have hs' := hs.t8 0
              have mco : F_Model_isCorrected (nI w) (zst s 4 80 8 0) = some 0 := by rw [m_isCorrected hs' (by omega)]; simp [aCor, k4, bI]
              have mkn : F_Model_knows (nI h) (nI w) 0 (zst s 4 80 8 0) = some 1 := by rw [kno _ hs']; simp [k3, bI]
              rw [F_Model_correct, m_isHouse1 hs' hZ hh, Option.bind_some, if_neg (by decide), m_isNews1 hs' hZ hw, Option.bind_some, if_neg (by decide), m_in1 q, Option.bind_some, if_neg (by decide), mkn, Option.bind_some, if_neg (by decide), mco, Option.bind_some, if_pos rfl]
              refine zOk.bind (m_tell3 hs' (show w < 20 by omega) d) (fun s1 ⟨a1, b1⟩ => ?_)
              refine zOk.bind (m_tell4 a1 (show w < 20 by omega) _) (fun s2 ⟨a2, b2⟩ => ?_)
              have et : s2.1 4 81 8 = A 0 8 0 := by rw [a2.sc (by decide), aup_f (by decide), aup_f (by decide)]
              rw [et]
              refine zOk.bind (m_tell5 a2 (show w < 20 by omega) _) (fun s3 ⟨a3, b3⟩ => ?_)
              have hZ3 : zSz (aCo A h w d) n m := by
                unfold aCo
                exact zSz_cg (fun k _ => by rw [aup_f (by decide), aup_f (by decide), aup_f (by decide)]) hZ
              refine zOk.bind (m_learn (A := aCo A h w d) a3 hZ3 (show h < 12 by omega) (show w < 20 by omega)) (fun s4 ⟨a4, b4⟩ => ?_)
              rw [hA'] at a4
              rw [show F_Model_owedBy (nI h) (nI w) s4 = some (zm (fun o => aOw A' h o w) n) from m_owedBy a4 h2.2.2.1.1 (show h < 12 by omega) (show w < 20 by omega), Option.bind_some, m_size (by omega), Option.bind_some]
              refine ⟨_, rfl, rfl, a4, (((((zfN.t8 s 0).tr (zfN.m b1)).tr (zfN.m b2)).tr (zfN.m b3)).tr (zfN.m b4)), ?_⟩
              show s4.1 4 80 8 = 0
              rw [b4.2.1 8 (by decide), b3.2.1 8 (by decide), b2.2.1 8 (by decide), b1.2.1 8 (by decide), zst_8]
          · have cor : F_Tidings_isCorrected 0 (nI w) σ = some 1 := by rw [c_isCorrected hC.1 hC.2.2.1 hw]; simp [aCor, k4, bI]
            refine zRI.qry (r := -4) J hM ?_ (fun s hs _ => ?_)
            · simp only [F_Law_correct, F_Waves_correct, x_h1 hC hh, x_w1 hC hw, x_in1 q, g38, con, cor, Option.bind_some, bd2, F_Model_fail, z10, z20, z00, if_true, if_false, eq_self, zs_AI, zs_SA]
            · have hs' := hs.t8 0
              have mco : F_Model_isCorrected (nI w) (zst s 4 80 8 0) = some 1 := by rw [m_isCorrected hs' (by omega)]; simp [aCor, k4, bI]
              have mkn : F_Model_knows (nI h) (nI w) 0 (zst s 4 80 8 0) = some 1 := by rw [kno _ hs']; simp [k3, bI]
              simp only [F_Model_correct, m_isHouse1 hs' hZ hh, m_isNews1 hs' hZ hw, m_in1 q, mkn, mco, Option.bind_some, bd2, F_Model_fail, z10, z20, z00, if_true, if_false, eq_self, zs_AI, zs_SA]
        · have con : F_Waves_contains (zm (fun h => decide (A 3 h w = 1)) n) (nI h) σ = some 0 := by rw [z_contains (by omega) hh]; simp [k3]
          refine zRI.qry (r := -3) J hM ?_ (fun s hs _ => ?_)
          · simp only [F_Law_correct, F_Waves_correct, x_h1 hC hh, x_w1 hC hw, x_in1 q, g38, con, Option.bind_some, bd2, F_Model_fail, z10, z20, z00, if_true, if_false, eq_self, zs_AI, zs_SA]
          · have hs' := hs.t8 0
            have mkn : F_Model_knows (nI h) (nI w) 0 (zst s 4 80 8 0) = some 0 := by rw [kno _ hs']; simp [k3, bI]
            simp only [F_Model_correct, m_isHouse1 hs' hZ hh, m_isNews1 hs' hZ hw, m_in1 q, mkn, Option.bind_some, bd2, F_Model_fail, z10, z20, z00, if_true, if_false, eq_self, zs_AI, zs_SA]
      | false =>
        refine zRI.no (k := 2) J hM ?_ (by decide) (fun s hs _ => ?_)
        · simp only [F_Law_correct, F_Waves_correct, x_h1 hC hh, x_w1 hC hw, x_in0 q, Option.bind_some, bd2, F_Model_fail, z10, z20, z00, if_true, if_false, eq_self, zs_AI, zs_SA]
        · simp only [F_Model_correct, m_isHouse1 (hs.t8 0) hZ hh, m_isNews1 (hs.t8 0) hZ hw, m_in0 q, Option.bind_some, bd2, F_Model_fail, z10, z20, z00, if_true, if_false, eq_self, zs_AI, zs_SA]
    · refine zRI.no (k := 1) J hM ?_ (by decide) (fun s hs _ => ?_)
      · simp only [F_Law_correct, F_Waves_correct, x_h1 hC hh, x_w0 hC hb, Option.bind_some, bd2, F_Model_fail, z10, z20, z00, if_true, if_false, eq_self, zs_AI, zs_SA]
      · simp only [F_Model_correct, m_isHouse1 (hs.t8 0) hZ hh, m_isNews0 (hs.t8 0) hZ hb, Option.bind_some, bd2, F_Model_fail, z10, z20, z00, if_true, if_false, eq_self, zs_AI, zs_SA]
  · refine zRI.no (k := 1) J hM ?_ (by decide) (fun s hs _ => ?_)
    · simp only [F_Law_correct, F_Waves_correct, x_h0 hC ha, Option.bind_some, bd2, F_Model_fail, z10, z20, z00, if_true, if_false, eq_self, zs_AI, zs_SA]
    · simp only [F_Model_correct, m_isHouse0 (hs.t8 0) hZ ha, Option.bind_some, bd2, F_Model_fail, z10, z20, z00, if_true, if_false, eq_self, zs_AI, zs_SA]
theorem j_run (J : zJ σ K) (hK : K + 500 < 2 ^ 28) (a : Int32) : zRI (K + 500) (F_Law_run a σ) (F_Model_run a) := by
  obtain ⟨A, n, m, c, T, hT, hC, hM, hp⟩ := id J
  cases q : zBt a 1 500 with
  | true =>
    have q' := q
    obtain ⟨k, hk1, hk2, rfl⟩ := z_rng (lo := 1) (hi := 500) q (by decide) (by decide)
    obtain ⟨σ1, e1, h1, h2⟩ := c_pass hC (k := k) (by omega) hk2
    have a0 : σ.1 0 59 0 = A 0 10 0 := hC.2.1.1
    have a1 : σ1.1 0 59 0 = aPass A n m k 0 10 0 := h1.2.1.1
    refine zRI.ok (r := aPass A n m k 0 10 0 - A 0 10 0) hp hM ?_ (zfX.v0 h2) h1 (by omega) (by omega) (fun s hs _ => ?_)
    · simp only [F_Law_run, F_Waves_run, x_in1 q', e1, a0, a1, Option.bind_some, bd2, F_Model_fail, z10, z20, z00, if_true, if_false, eq_self, zs_AI, zs_SA]
    · rw [F_Model_run, m_in1 q', Option.bind_some, if_neg (by decide)]
      refine zOk.bind (m_pass (hs.t8 0) hC (by omega) hk2) (fun s2 ⟨g1, g2⟩ => ?_)
      rw [g1.sc (by decide), (hs.t8 0).sc (by decide)]
      exact ⟨_, rfl, rfl, g1, (zfN.t8 s 0).tr (zfN.m g2), (g2.2.1 8 (by decide)).trans (zst_8 s 0)⟩
  | false =>
    refine zRI.up (K := K) (zRI.no (k := 1) J hM ?_ (by decide) (fun s hs _ => ?_)) (by omega)
    · simp only [F_Law_run, F_Waves_run, x_in0 q, Option.bind_some, bd2, F_Model_fail, z10, z20, z00, if_true, if_false, eq_self, zs_AI, zs_SA]
    · simp only [F_Model_run, m_in0 q, Option.bind_some, bd2, F_Model_fail, z10, z20, z00, if_true, if_false, eq_self, zs_AI, zs_SA]
theorem j_setQuiet (J : zJ σ K) (a b d : Int32) : zRV K (F_Law_setQuiet a b d σ) (F_Model_setQuiet a b d) := by
  obtain ⟨A, n, m, c, T, hT, hC, hM, hp⟩ := id J
  have hn := hC.hn
  have hZ := hC.2.2.1.1
  obtain ⟨⟨dd, d1, d2, ed⟩, -⟩ := hC.2.2.1.2.1
  have ex : σ.1 0 0 0 - 1 = nI (dd - 1) := by
    rw [hC.1.1.1, ed, show dd = (dd - 1) + 1 by omega, nI_pred]
    rfl
  have em : ∀ s, zMr s A → s.1 4 81 5 - 1 = nI (dd - 1) := fun s hs => by
    rw [hs.sc (by decide), ed, show dd = (dd - 1) + 1 by omega, nI_pred]
    rfl
  rcases z_idx a (n := n) (by omega) with ⟨h, hh, rfl⟩ | ha
  · have bad : (∀ s, zMr s A → F_Model_setQuiet (nI h) b d s = B_Model_setQuiet_72 (nI h) b d 2 s) → F_Waves_setQuiet (nI h) b d σ = some (.inr "java/lang/IllegalArgumentException") → zRV K (F_Law_setQuiet (nI h) b d σ) (F_Model_setQuiet (nI h) b d) := by
      intro g1 g2
      refine zRV.no (k := 2) J hM ?_ (fun s hs _ => ?_)
      · simp only [F_Law_setQuiet, g2, Option.bind_some, bd2, F_Model_fail, z10, z20, z00, if_true, if_false, eq_self, zs_AI, zs_SA]
      · rw [g1 s hs, B_Model_setQuiet_72, if_neg (by rw [zst_8]; decide)]
    have good : (∀ s, zMr s A → F_Model_setQuiet (nI h) b d s = B_Model_setQuiet_72 (nI h) b d 0 s) → F_Waves_setQuiet (nI h) b d σ = some (.inl (zst (zst σ 0 15 h b) 0 17 h d)) → zRV K (F_Law_setQuiet (nI h) b d σ) (F_Model_setQuiet (nI h) b d) := by
      intro g1 g2
      refine zRV.ok hp hM ?_ ((zfX.v0 (zfV.st 0 σ 15 h b)).tr (zfX.v0 (zfV.st 0 _ 17 h d))) (zC_quiet hC h b d) hT (Nat.le_refl K) (fun s hs _ => ?_)
      · simp only [F_Law_setQuiet, g2, Option.bind_some, bd2, F_Model_fail, z10, z20, z00, if_true, if_false, eq_self, zs_AI, zs_SA]
      · rw [g1 s hs, B_Model_setQuiet_72, if_pos (zst_8 s 0)]
        refine zOk.bind (m_put5 (hs.t8 0) (show h < 12 by omega) b) (fun s2 ⟨a1, b1⟩ => ?_)
        refine zOk.bind (m_put6 a1 (show h < 12 by omega) d) (fun s3 ⟨a2, b2⟩ => ?_)
        refine ⟨_, rfl, a2, ((zfN.t8 s 0).tr (zfN.m b1)).tr (zfN.m b2), ?_⟩
        rw [b2.2.1 8 (by decide), b1.2.1 8 (by decide), zst_8]
    have m37 : ∀ (y : Int32) s, zMr s A → B_Model_setQuiet_37 (nI h) b d y s = (if y = 0 then (if b = (-1 : Int32) then (if d = (-1 : Int32) then B_Model_setQuiet_72 (nI h) b d (0 : Int32) s else B_Model_setQuiet_72 (nI h) b d (2 : Int32) s) else B_Model_setQuiet_72 (nI h) b d (2 : Int32) s) else B_Model_setQuiet_72 (nI h) b d (0 : Int32) s) := fun y s hs => by
      rw [B_Model_setQuiet_37, m_isHouse1 hs hZ hh, Option.bind_some, if_neg (by decide)]
    have mall : ∀ s, zMr s A → F_Model_setQuiet (nI h) b d s = B_Model_setQuiet_37 (nI h) b d (bI (zBt b 0 (nI (dd - 1)) && zBt d 0 (nI (dd - 1)))) s := fun s hs => by
      rw [F_Model_setQuiet, em s hs]
      cases q1 : zBt b 0 (nI (dd - 1)) with
      | false => rw [m_in0 q1, Option.bind_some, if_pos rfl]; rfl
      | true =>
        rw [m_in1 q1, Option.bind_some, if_neg (by decide)]
        cases q2 : zBt d 0 (nI (dd - 1)) with
        | false => rw [m_in0 q2, Option.bind_some, if_pos rfl]; rfl
        | true => rw [m_in1 q2, Option.bind_some, if_neg (by decide)]; rfl
    have x1 : zBt b (-1) (nI (dd - 1)) = (zBt b 0 (nI (dd - 1)) || decide (b = -1)) := zBt_m1 (by omega)
    have x2 : zBt d (-1) (nI (dd - 1)) = (zBt d 0 (nI (dd - 1)) || decide (d = -1)) := zBt_m1 (by omega)
    have nb : zBt b 0 (nI (dd - 1)) = true → ¬ b = -1 := fun z y => by
      subst y
      exact absurd (zBt_t z).1 (by decide)
    have nd : zBt d 0 (nI (dd - 1)) = true → ¬ d = -1 := fun z y => by
      subst y
      exact absurd (zBt_t z).1 (by decide)
    cases q1 : zBt b 0 (nI (dd - 1)) with
    | true =>
      have y1 := nb q1
      rw [q1] at x1
      have x1 : zBt b (-1) (nI (dd - 1)) = true := by rw [x1]; rfl
      cases q2 : zBt d 0 (nI (dd - 1)) with
      | true =>
        have y2 := nd q2
        rw [q2] at x2
        have x2 : zBt d (-1) (nI (dd - 1)) = true := by rw [x2]; rfl
        refine good (fun s hs => ?_) ?_
        · rw [mall s hs, q1, q2, m37 _ s hs, if_neg (by decide)]
        · simp only [F_Waves_setQuiet, x_h1 hC hh, ex, x_in1 x1, x_in1 x2, y1, y2, r_put14 (show h < 12 by omega), r_put16 (show h < 12 by omega), Option.bind_some, bd2, F_Model_fail, z10, z20, z00, if_true, if_false, eq_self, zs_AI, zs_SA]
      | false =>
        have mb : ∀ s, zMr s A → F_Model_setQuiet (nI h) b d s = B_Model_setQuiet_72 (nI h) b d 2 s := fun s hs => by
          rw [mall s hs, q1, q2, m37 _ s hs, if_pos (by decide), if_neg y1]
        by_cases y2 : d = -1
        · rw [q2, y2] at x2
          have x2 : zBt d (-1) (nI (dd - 1)) = true := by rw [y2, x2]; rfl
          refine bad mb ?_
          rw [F_Waves_setQuiet, x_h1 hC hh]
          simp only [ex, x_in1 x1, x_in1 x2, y1, if_pos y2, show ((0 : Int32) = 1) = False from eq_false (by decide), Option.bind_some, bd2, F_Model_fail, z10, z20, z00, if_true, if_false, eq_self, zs_AI, zs_SA]
        · have x2 : zBt d (-1) (nI (dd - 1)) = false := by rw [x2, q2]; simp [y2]
          refine bad mb ?_
          simp only [F_Waves_setQuiet, x_h1 hC hh, ex, x_in1 x1, x_in0 x2, Option.bind_some, bd2, F_Model_fail, z10, z20, z00, if_true, if_false, eq_self, zs_AI, zs_SA]
    | false =>
      by_cases y1 : b = -1
      · have x1 : zBt b (-1) (nI (dd - 1)) = true := by rw [x1]; simp [y1]
        by_cases y2 : d = -1
        · have x2 : zBt d (-1) (nI (dd - 1)) = true := by rw [x2]; simp [y2]
          refine good (fun s hs => ?_) ?_
          · rw [mall s hs, q1, m37 _ s hs]
            show (if bI false = 0 then _ else _) = _
            rw [if_pos (by decide), if_pos y1, if_pos y2]
          · simp only [F_Waves_setQuiet, x_h1 hC hh, ex, x_in1 x1, x_in1 x2, if_pos y1, if_pos y2, r_put14 (show h < 12 by omega), r_put16 (show h < 12 by omega), Option.bind_some, bd2, F_Model_fail, z10, z20, z00, if_true, if_false, eq_self, zs_AI, zs_SA]
        · have mb : ∀ s, zMr s A → F_Model_setQuiet (nI h) b d s = B_Model_setQuiet_72 (nI h) b d 2 s := fun s hs => by
            rw [mall s hs, q1, m37 _ s hs]
            show (if bI false = 0 then _ else _) = _
            rw [if_pos (by decide), if_pos y1, if_neg y2]
          cases q2 : zBt d (-1) (nI (dd - 1)) with
          | true =>
            refine bad mb ?_
            simp only [F_Waves_setQuiet, x_h1 hC hh, ex, x_in1 x1, x_in1 q2, if_pos y1, if_neg y2, z10, show ((1 : Int32) = 0) = False from eq_false (by decide), Option.bind_some, bd2, F_Model_fail, z10, z20, z00, if_true, if_false, eq_self, zs_AI, zs_SA]
          | false =>
            refine bad mb ?_
            simp only [F_Waves_setQuiet, x_h1 hC hh, ex, x_in1 x1, x_in0 q2, Option.bind_some, bd2, F_Model_fail, z10, z20, z00, if_true, if_false, eq_self, zs_AI, zs_SA]
      · have mb : ∀ s, zMr s A → F_Model_setQuiet (nI h) b d s = B_Model_setQuiet_72 (nI h) b d 2 s := fun s hs => by
          rw [mall s hs, q1, m37 _ s hs]
          show (if bI false = 0 then _ else _) = _
          rw [if_pos (by decide), if_neg y1]
        have x1 : zBt b (-1) (nI (dd - 1)) = false := by rw [x1, q1]; simp [y1]
        refine bad mb ?_
        simp only [F_Waves_setQuiet, x_h1 hC hh, ex, x_in0 x1, Option.bind_some, bd2, F_Model_fail, z10, z20, z00, if_true, if_false, eq_self, zs_AI, zs_SA]
  · refine zRV.no (k := 1) J hM ?_ (fun s hs _ => ?_)
    · simp only [F_Law_setQuiet, F_Waves_setQuiet, x_h0 hC ha, Option.bind_some, bd2, F_Model_fail, z10, z20, z00, if_true, if_false, eq_self, zs_AI, zs_SA]
    · have g : ∀ y, B_Model_setQuiet_37 a b d y s = some (zst s 4 80 8 1) := fun y => by
        rw [B_Model_setQuiet_37, m_isHouse0 hs hZ ha, Option.bind_some, if_pos rfl, B_Model_setQuiet_72, if_neg (by rw [zst_8]; decide)]
      rw [F_Model_setQuiet]
      cases q1 : zBt b 0 (s.1 4 81 5 - 1) with
      | false => rw [m_in0 q1, Option.bind_some, if_pos rfl, g]
      | true =>
        rw [m_in1 q1, Option.bind_some, if_neg (by decide)]
        cases q2 : zBt d 0 (s.1 4 81 5 - 1) with
        | false => rw [m_in0 q2, Option.bind_some, if_pos rfl, g]
        | true => rw [m_in1 q2, Option.bind_some, if_neg (by decide), g]
theorem j_spoken (J : zJ σ K) (a b : Int32) : zRI K (F_Law_spoken a b σ) (F_Model_spoken a b) := by
  obtain ⟨A, n, m, c, T, hT, hC, hM, hp⟩ := id J
  by_cases q0 : a < 0
  · refine zRI.no (k := 1) J hM ?_ (by decide) (fun s hs _ => ?_)
    · rw [F_Law_spoken, F_Waves_spoken, if_neg (Int32.not_le.mpr q0)]
      rfl
    · simp only [F_Model_spoken, if_pos q0, Option.bind_some, bd2, F_Model_fail, z10, z20, z00, if_true, if_false, eq_self, zs_AI, zs_SA]
  · cases q : zBt b 0 5 with
    | true =>
      have q' := q
      obtain ⟨k, -, hk, rfl⟩ := z_rng (lo := 0) (hi := 5) q (by decide) (by decide)
      obtain ⟨i, hi, rfl⟩ := nI_of q0
      obtain ⟨s0, hs0, e10, e11⟩ := hC.2.2.2.2
      have hT2 := hC.2.2.1.2.1.2.2.1
      have e59 : σ.1 0 59 0 = nI s0 := hC.2.1.1.trans e10
      by_cases q30 : i < min 30 s0
      · have g := hC.2.1.2 s0 i k e10 (by omega) (by omega) (by omega) (by omega)
        refine zRI.qry (r := A 12 i k) J hM ?_ (fun s hs _ => ?_)
        · have fact : F_Journal_fact 0 (nI i) (nI k) σ = some (A 12 i k) := by
            rw [F_Journal_fact, if_neg (show ¬ (30 : Int32) ≤ nI i from nI_ge (b := 30) (by omega) (by decide)), e59, if_pos (nI_lt (by omega) (by omega)), show (nI s0 - 1 : Int32) = nI (s0 - 1) from pk_sub (b := 1) (by omega), pk_sub (show i ≤ s0 - 1 by omega), show (30 : Int32) = nI 30 from rfl, pk_rem (by omega) (by decide) (by decide), show (6 : Int32) = nI 6 from rfl, pk_mul, nI_add, r_get60 (by omega), Option.bind_some, g]
          rw [F_Law_spoken, F_Waves_spoken, if_pos (Int32.not_lt.mp q0)]
          simp only [x_in1 q', fact, Option.bind_some, bd2, F_Model_fail, z10, z20, z00, if_true, if_false, eq_self, zs_AI, zs_SA]
        · have e : (zst s 4 80 8 0).1 4 81 11 = nI (min 30 s0) := by rw [(hs.t8 0).sc (by decide)]; exact e11
          rw [F_Model_spoken, if_neg q0, m_in1 q', Option.bind_some, if_neg (by decide), e, if_neg (nI_ge q30 (by omega)), show ((2412 : Int32) + (6 : Int32) * nI i) + nI k = nI (2412 + 6 * i + k) by rw [show (2412 : Int32) = nI 2412 from rfl, show (6 : Int32) = nI 6 from rfl, pk_mul, nI_add, nI_add], if_pos (inb_n (by omega) (by decide)), nI_clamp (by omega), (hs.t8 0).1.2.2.2.2 i k (by omega) (by omega)]
      · refine zRI.qry (r := -1) J hM ?_ (fun s hs _ => ?_)
        · have fact : F_Journal_fact 0 (nI i) (nI k) σ = some (-1) := by
            rw [F_Journal_fact]
            by_cases z : (30 : Int32) ≤ nI i
            · rw [if_pos z]
            · have z2 : i < 30 := Nat.lt_of_not_le (fun y => z (nI_le (a := 30) y hi))
              rw [if_neg z, e59, if_neg (nI_nlt (by omega) hi)]
          rw [F_Law_spoken, F_Waves_spoken, if_pos (Int32.not_lt.mp q0)]
          simp only [x_in1 q', fact, Option.bind_some, bd2, F_Model_fail, z10, z20, z00, if_true, if_false, eq_self, zs_AI, zs_SA]
        · have e : (zst s 4 80 8 0).1 4 81 11 = nI (min 30 s0) := by rw [(hs.t8 0).sc (by decide)]; exact e11
          rw [F_Model_spoken, if_neg q0, m_in1 q', Option.bind_some, if_neg (by decide), e, if_pos (nI_le (by omega) hi)]
    | false =>
      refine zRI.no (k := 1) J hM ?_ (by decide) (fun s hs _ => ?_)
      · rw [F_Law_spoken, F_Waves_spoken, if_pos (Int32.not_lt.mp q0)]
        simp only [x_in0 q, Option.bind_some, bd2, F_Model_fail, z10, z20, z00, if_true, if_false, eq_self, zs_AI, zs_SA]
      · simp only [F_Model_spoken, if_neg q0, m_in0 q, Option.bind_some, bd2, F_Model_fail, z10, z20, z00, if_true, if_false, eq_self, zs_AI, zs_SA]
end J1
