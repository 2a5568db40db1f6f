/-! the law's loop over the state -/
theorem lg_eq (x : Int64) : lg_cmp x x = 0 := by
  unfold lg_cmp
  rw [if_neg (show ¬ x > x from Int64.lt_irrefl), if_pos rfl]
theorem law_I {K : Nat} {X : Option (Int32 × zSt)} {fm : zSt → Option (Int32 × zSt)} {g : zSt → Option Int32} (h : zRI K X fm) (k : ∀ s, zJ s K → g s = some 1) : (bd2 X fun r σ1 => bd2 (fm σ1) fun r2 σ2 => (F_Model_thrown σ2).bind fun t => if t = r then (if r = 0 then (if (lg_cmp (σ2.2.1 95) r2.toInt64) = 0 then g σ2 else some (0 : Int32)) else g σ2) else some (0 : Int32)) = some 1 := by
  obtain ⟨⟨r, s1⟩, e1, ⟨r2, s2⟩, e2, h1, h2, h3⟩ := h
  rw [e1, bd2_some]
  have e2 : fm s1 = some (r2, s2) := e2
  rw [e2, bd2_some, F_Model_thrown, Option.bind_some]
  have h2 : s2.1 4 80 8 = r := h2
  rw [if_pos h2]
  by_cases q : r = 0
  · have h3 : s2.2.1 95 = r2.toInt64 := h3 q
    rw [if_pos q, h3, if_pos (lg_eq _)]
    exact k s2 h1
  · rw [if_neg q]
    exact k s2 h1
theorem law_V {K : Nat} {X : Option (Int32 × zSt)} {fm : zSt → Option zSt} {g : zSt → Option Int32} (h : zRV K X fm) (k : ∀ s, zJ s K → g s = some 1) : (bd2 X fun r σ1 => (fm σ1).bind fun σ2 => (F_Model_thrown σ2).bind fun t => if t = r then g σ2 else some (0 : Int32)) = some 1 := by
  obtain ⟨⟨r, s1⟩, e1, s2, e2, h1, h2⟩ := h
  rw [e1, bd2_some]
  have e2 : fm s1 = some s2 := e2
  rw [e2, Option.bind_some, F_Model_thrown, Option.bind_some]
  have h2 : s2.1 4 80 8 = r := h2
  rw [if_pos h2]
  exact k s2 h1
theorem law_0 {K : Nat} {X : Option (Int32 × zSt)} {fm : zSt → Option (Int32 × zSt)} {g : zSt → Option Int32} (h : zR0 K X fm) (k : ∀ s, zJ s K → g s = some 1) : (bd2 X fun r σ1 => bd2 (fm σ1) fun r2 σ2 => if r = r2 then g σ2 else some (0 : Int32)) = some 1 := by
  obtain ⟨⟨r, s1⟩, e1, ⟨r2, s2⟩, e2, h1, h2⟩ := h
  rw [e1, bd2_some]
  have e2 : fm s1 = some (r2, s2) := e2
  rw [e2, bd2_some]
  have h2 : r = r2 := h2
  rw [if_pos h2]
  exact k s2 h1
theorem law_dd {a : UInt64} {x : Option Int32} : (if (Op.cmpValue (FP.dcmp a a) .l) = 0 then x else (if (Op.cmpValue (FP.dcmp a a) .l) = 0 then some (0 : Int32) else (if (Op.cmpValue (FP.dcmp a a) .l) = 0 then some (0 : Int32) else x))) = x := by
  by_cases q : (Op.cmpValue (FP.dcmp a a) .l) = 0
  · rw [if_pos q]
  · rw [if_neg q, if_neg q, if_neg q]
theorem law_D {K : Nat} {X : Option (Int32 × zSt)} {fm : zSt → Option (UInt64 × zSt)} {g : zSt → Option Int32} (h : zRD K X fm) (k : ∀ s, zJ s K → g s = some 1) : (bd2 X fun r σ1 => bd2 (fm σ1) fun r2 σ2 => (F_Model_thrown σ2).bind fun t => if t = r then (if r = 0 then (if (Op.cmpValue (FP.dcmp (σ2.2.2 96) r2) .l) = 0 then g σ2 else (if (Op.cmpValue (FP.dcmp (σ2.2.2 96) (σ2.2.2 96)) .l) = 0 then some (0 : Int32) else (if (Op.cmpValue (FP.dcmp r2 r2) .l) = 0 then some (0 : Int32) else g σ2))) else g σ2) else some (0 : Int32)) = some 1 := by
  obtain ⟨⟨r, s1⟩, e1, ⟨r2, s2⟩, e2, h1, h2, h3⟩ := h
  rw [e1, bd2_some]
  have e2 : fm s1 = some (r2, s2) := e2
  rw [e2, bd2_some, F_Model_thrown, Option.bind_some]
  have h2 : s2.1 4 80 8 = r := h2
  rw [if_pos h2]
  by_cases q : r = 0
  · have h3 : s2.2.2 96 = r2 := h3 q
    rw [if_pos q, h3, law_dd]
    exact k s2 h1
  · rw [if_neg q]
    exact k s2 h1
set_option maxHeartbeats 4000000 in
theorem law_all {xs : Nat → Int32} {L : Nat} (hL : L ≤ 3072) : ∀ d k j (σ : zSt), L < 6 * k + 6 * d + 6 → k + d ≤ 600 → zJ σ (500 * k) → 2 * d + 1 ≤ j → L_law xs L j 0 (nI (6 * k)) σ = some 1 := by
  intro d
  induction d with
  | zero =>
    intro k j σ h1 h2 J hj
    obtain ⟨j, rfl⟩ : ∃ q, j = q + 1 := ⟨j - 1, by omega⟩
    have lt : (Int32.ofNat L) - (6 : Int32) < nI (6 * k) := by
      show nI L - nI 6 < nI (6 * k)
      by_cases z : 6 ≤ L
      · rw [pk_sub z]; exact nI_lt (by omega) (by omega)
      · rw [Int32.lt_iff_toInt_lt, nI_toInt (show 6 * k < 2 ^ 31 by omega), pk_sub_toInt (by omega) (by decide)]; omega
    rw [e_law_0, if_pos lt]
  | succ d ih =>
    intro k j σ h1 h2 J hj
    obtain ⟨j, rfl⟩ : ∃ q, j = q + 2 := ⟨j - 2, by omega⟩
    by_cases z : L < 6 * k + 6
    · have lt : (Int32.ofNat L) - (6 : Int32) < nI (6 * k) := by
        show nI L - nI 6 < nI (6 * k)
        by_cases z : 6 ≤ L
        · rw [pk_sub z]; exact nI_lt (by omega) (by omega)
        · rw [Int32.lt_iff_toInt_lt, nI_toInt (show 6 * k < 2 ^ 31 by omega), pk_sub_toInt (by omega) (by decide)]; omega
      rw [e_law_0, if_pos lt]
    · have nlt : ¬ (Int32.ofNat L) - (6 : Int32) < nI (6 * k) := by
        show ¬ nI L - nI 6 < nI (6 * k)
        rw [pk_sub (by omega)]
        exact nI_nlt (by omega) (by omega)
      have hin : ∀ q, q < 6 → (inb (nI (6 * k) + nI q) L = true) = True := fun q hq => eq_true (by rw [nI_add]; exact inb_n (by omega) (by omega))
      have i0 : inb (nI (6 * k)) L = true := inb_n (by omega) (by omega)
      have i1 : (inb (nI (6 * k) + (1 : Int32)) L = true) = True := hin 1 (by decide)
      have i2 : (inb (nI (6 * k) + (2 : Int32)) L = true) = True := hin 2 (by decide)
      have i3 : (inb (nI (6 * k) + (3 : Int32)) L = true) = True := hin 3 (by decide)
      have i4 : (inb (nI (6 * k) + (4 : Int32)) L = true) = True := hin 4 (by decide)
      have i5 : (inb (nI (6 * k) + (5 : Int32)) L = true) = True := hin 5 (by decide)
      have six : nI (6 * k) + (6 : Int32) = nI (6 * (k + 1)) := nI_add (6 * k) 6
      have kk : ∀ (jj : Nat) (s : zSt), 2 * d + 1 ≤ jj → zJ s (500 * (k + 1)) → L_law xs L jj 0 (nI (6 * k) + (6 : Int32)) s = some 1 := fun jj s hjj hs => by
        rw [six]
        exact ih (k + 1) jj s (by omega) (by omega) hs hjj
      have up : 500 * k ≤ 500 * (k + 1) := by omega
      have b5 : 500 * k + 500 < 2 ^ 28 := by omega
      have b6 : 500 * k + 501 < 2 ^ 28 := by omega
      have e5 : 500 * k + 500 = 500 * (k + 1) := by omega
      rw [e_law_0, if_neg nlt, if_pos i0]
      generalize (xs (nI (6 * k)).toNatClampNeg) &&& (63 : Int32) = v
      by_cases c0 : v = (0 : Int32)
      · rw [if_pos c0, e_law_1]
        simp only [i1, if_true]
        exact law_I ((j_append J _).up up) (fun s hs => kk j s (by omega) hs)
      rw [if_neg c0]
      by_cases c1 : v = (1 : Int32)
      · rw [if_pos c1, e_law_2]
        simp only [i1, if_true]
        exact law_I ((j_truncate J _).up up) (fun s hs => kk j s (by omega) hs)
      rw [if_neg c1]
      by_cases c2 : v = (2 : Int32)
      · rw [if_pos c2, e_law_3]
        exact law_0 ((j_load J).up up) (fun s hs => kk j s (by omega) hs)
      rw [if_neg c2]
      by_cases c3 : v = (3 : Int32)
      · rw [if_pos c3, e_law_4]
        obtain ⟨g1, g2, g3⟩ := j_errorCode J
        rw [g1, Option.bind_some, g2, bd2_some, if_pos rfl]
        exact kk j _ (by omega) (g3.fr up rfl)
      rw [if_neg c3]
      by_cases c4 : v = (4 : Int32)
      · rw [if_pos c4, e_law_5]
        obtain ⟨g1, g2, g3⟩ := j_errorPosition J
        rw [g1, Option.bind_some, g2, bd2_some, if_pos rfl]
        exact kk j _ (by omega) (g3.fr up rfl)
      rw [if_neg c4]
      by_cases c5 : v = (5 : Int32)
      · rw [if_pos c5, e_law_6]
        simp only [i1, i2, i3, i4, i5, if_true]
        exact law_I ((j_addHouse J _ _ _ _ _).up up) (fun s hs => kk j s (by omega) hs)
      rw [if_neg c5]
      by_cases c6 : v = (6 : Int32)
      · rw [if_pos c6, e_law_7]
        simp only [i1, i2, i3, if_true]
        exact law_V ((j_setQuiet J _ _ _).up up) (fun s hs => kk j s (by omega) hs)
      rw [if_neg c6]
      by_cases c7 : v = (7 : Int32)
      · rw [if_pos c7, e_law_8]
        simp only [i1, i2, if_true]
        exact law_I ((j_charge J _ _).up up) (fun s hs => kk j s (by omega) hs)
      rw [if_neg c7]
      by_cases c8 : v = (8 : Int32)
      · rw [if_pos c8, e_law_9]
        simp only [i1, i2, if_true]
        exact law_I ((j_set J _ _).up up) (fun s hs => kk j s (by omega) hs)
      rw [if_neg c8]
      by_cases c9 : v = (9 : Int32)
      · rw [if_pos c9, e_law_10]
        simp only [i1, if_true]
        exact law_V ((j_seed J _).up up) (fun s hs => kk j s (by omega) hs)
      rw [if_neg c9]
      by_cases c10 : v = (10 : Int32)
      · rw [if_pos c10, e_law_11]
        simp only [i1, if_true]
        exact law_I ((j_count J _).up up) (fun s hs => kk j s (by omega) hs)
      rw [if_neg c10]
      by_cases c11 : v = (11 : Int32)
      · rw [if_pos c11, e_law_12]
        simp only [i1, i2, if_true]
        exact law_I ((j_house J _ _).up up) (fun s hs => kk j s (by omega) hs)
      rw [if_neg c11]
      by_cases c12 : v = (12 : Int32)
      · rw [if_pos c12, e_law_13]
        simp only [i1, i2, i3, if_true]
        exact law_I ((j_entry J _ _ _).up up) (fun s hs => kk j s (by omega) hs)
      rw [if_neg c12]
      by_cases c13 : v = (13 : Int32)
      · rw [if_pos c13, e_law_14]
        simp only [i1, i2, if_true]
        exact law_I ((j_news J _ _).up up) (fun s hs => kk j s (by omega) hs)
      rw [if_neg c13]
      by_cases c14 : v = (14 : Int32)
      · rw [if_pos c14, e_law_15]
        simp only [i1, i2, if_true]
        exact law_I ((j_source J _ _).up up) (fun s hs => kk j s (by omega) hs)
      rw [if_neg c14]
      by_cases c15 : v = (15 : Int32)
      · rw [if_pos c15, e_law_16]
        simp only [i1, i2, if_true]
        exact law_I ((j_owes J _ _).up up) (fun s hs => kk j s (by omega) hs)
      rw [if_neg c15]
      by_cases c16 : v = (16 : Int32)
      · rw [if_pos c16, e_law_17]
        simp only [i1, i2, if_true]
        exact law_I ((j_spoken J _ _).up up) (fun s hs => kk j s (by omega) hs)
      rw [if_neg c16]
      by_cases c17 : v = (17 : Int32)
      · rw [if_pos c17, e_law_18]
        simp only [i1, i2, if_true]
        exact law_I ((j_tell J _ _).up up) (fun s hs => kk j s (by omega) hs)
      rw [if_neg c17]
      by_cases c18 : v = (18 : Int32)
      · rw [if_pos c18, e_law_19]
        simp only [i1, i2, i3, if_true]
        exact law_I ((j_correct J _ _ _).up up) (fun s hs => kk j s (by omega) hs)
      rw [if_neg c18]
      by_cases c19 : v = (19 : Int32)
      · rw [if_pos c19, e_law_20]
        simp only [i1, if_true]
        exact law_I (e5 ▸ j_run J b5 _) (fun s hs => kk j s (by omega) hs)
      rw [if_neg c19]
      by_cases c20 : v = (20 : Int32)
      · rw [if_pos c20, e_law_21]
        exact law_0 ((j_wishes J).up up) (fun s hs => kk j s (by omega) hs)
      rw [if_neg c20]
      by_cases c21 : v = (21 : Int32)
      · rw [if_pos c21, e_law_22]
        exact law_0 ((j_next J).up up) (fun s hs => kk j s (by omega) hs)
      rw [if_neg c21]
      by_cases c22 : v = (22 : Int32)
      · rw [if_pos c22, e_law_23]
        simp only [i1, if_true]
        refine law_D (K := 500 * (k + 1)) ?_ (fun s hs => kk j s (by omega) hs)
        exact (j_chance J _).mono (fun _ a => a.mono (fun _ b => ⟨b.1.fr up rfl, b.2⟩))
      rw [if_neg c22]
      by_cases c23 : v = (23 : Int32)
      · rw [if_pos c23, e_law_24]
        simp only [i1, i2, if_true]
        exact law_I ((j_near J _ _).up up) (fun s hs => kk j s (by omega) hs)
      rw [if_neg c23]
      by_cases c24 : v = (24 : Int32)
      · rw [if_pos c24, e_law_25]
        simp only [i1, i2, if_true]
        exact law_I ((j_hops J _ _).up up) (fun s hs => kk j s (by omega) hs)
      rw [if_neg c24]
      by_cases c25 : v = (25 : Int32)
      · rw [if_pos c25, e_law_26]
        simp only [i1, i2, if_true]
        exact law_I ((j_overlap J _ _).up up) (fun s hs => kk j s (by omega) hs)
      rw [if_neg c25]
      by_cases c26 : v = (26 : Int32)
      · rw [if_pos c26, e_law_27]
        obtain ⟨r, g1, g2, g3, g4⟩ := j_meanBattery J
        rw [g1, Option.bind_some, if_pos g2, g3, bd2_some, if_pos g2, law_dd]
        exact kk j _ (by omega) (g4.fr up rfl)
      rw [if_neg c26]
      by_cases c27 : v = (27 : Int32)
      · rw [if_pos c27, e_law_28]
        simp only [i1, i2, i3, if_true]
        exact law_I ((j_reached J b5 _ _ _).up up) (fun s hs => kk j s (by omega) hs)
      rw [if_neg c27]
      by_cases c28 : v = (28 : Int32)
      · rw [if_pos c28, e_law_29]
        simp only [i1, i2, if_true]
        exact law_I ((j_correctedIn J b6 _ _).up up) (fun s hs => kk j s (by omega) hs)
      rw [if_neg c28]
      by_cases c29 : v = (29 : Int32)
      · rw [if_pos c29, e_law_30]
        simp only [i1, i2, if_true]
        exact law_I ((j_ahead J b6 _ _).up up) (fun s hs => kk j s (by omega) hs)
      rw [if_neg c29]
      by_cases c30 : v = (30 : Int32)
      · rw [if_pos c30, e_law_31]
        simp only [i1, if_true]
        exact law_I ((j_bestAuthor J b6 _).up up) (fun s hs => kk j s (by omega) hs)
      rw [if_neg c30]
      by_cases c31 : v = (31 : Int32)
      · rw [if_pos c31, e_law_32]
        simp only [i1, if_true]
        exact law_V ((j_save J _).up up) (fun s hs => kk j s (by omega) hs)
      rw [if_neg c31]
      by_cases c32 : v = (32 : Int32)
      · rw [if_pos c32, e_law_33]
        simp only [i1, if_true]
        exact law_V ((j_restore J _).up up) (fun s hs => kk j s (by omega) hs)
      rw [if_neg c32]
      exact kk (j + 1) σ (by omega) (J.fr up rfl)
