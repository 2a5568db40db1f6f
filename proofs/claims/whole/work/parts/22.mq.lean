/-! what is asked of the abstract state -/
def aQuiet (A : zAb) (h : Nat) (t : Int32) : Bool := if A 1 h 5 = -1 then false else if A 1 h 6 < A 1 h 5 then (decide (A 1 h 5 ≤ t) || !decide (A 1 h 6 < t)) else (!decide (t < A 1 h 5) && !decide (A 1 h 6 < t))
def aT (A : zAb) : Int32 := A 0 8 0 - A 0 8 0 / A 0 5 0 * A 0 5 0
def aDist (A : zAb) (h o : Nat) : Int32 := ((A 1 h 0 - A 1 o 0) * (A 1 h 0 - A 1 o 0)) + ((A 1 h 1 - A 1 o 1) * (A 1 h 1 - A 1 o 1))
def aRng (A : zAb) (h o : Nat) : Bool := !decide (h = o) && !decide (A 1 h 2 * A 1 h 2 < aDist A h o)
def aNear (A : zAb) (n h : Nat) : Int32 := zm (aRng A h) n
def aOw (A : zAb) (h o w : Nat) : Bool := (decide (A 5 h w = nI o) || decide (A 5 o w = nI h)) && decide (A 4 h w = 1) && decide (A 4 o w = 0)
def aOws (A : zAb) (n h w : Nat) : Int32 := zm (fun o => aOw A h o w) n
def aSend (A : zAb) (n h w : Nat) : Bool := !decide (aOws A n h w &&& aNear A n h = 0)
def aCor (A : zAb) (w : Nat) : Bool := !decide (A 2 w 4 = -1)
def aKn (A : zAb) (h w s : Nat) : Bool := if s = 0 then decide (A 3 h w = 1) else if s = 1 then decide (A 4 h w = 1) else (aCor A w && decide (A 3 h w = 1) && decide (A 4 h w = 0))
def zmx (f : Nat → Int32) : Nat → Int32
  | 0 => 0
  | n + 1 => if zmx f n < f n then f n else zmx f n
def zSz (A : zAb) (n m : Nat) : Prop := A 0 6 0 = nI n ∧ A 0 7 0 = nI m ∧ n ≤ 12 ∧ m ≤ 20
section MQ
variable {σ : zSt} {A : zAb} {n m : Nat}
theorem m_quietAt (hM : zMr σ A) {h : Nat} (hh : h < 12) (t : Int32) : F_Model_isQuietAt (nI h) t σ = some (bI (aQuiet A h t)) := by
  rw [F_Model_isQuietAt, m_of5 hM hh, m_of6 hM hh]
  simp only [Option.bind_some, F_Model_isBetween, aQuiet]
  by_cases c1 : A 1 h 5 = -1
  · simp [c1, bI]
  · by_cases c2 : A 1 h 6 < A 1 h 5
    · by_cases c3 : A 1 h 5 ≤ t <;> by_cases c4 : A 1 h 6 < t <;> simp [c1, c2, c3, c4, bI]
    · by_cases c3 : t < A 1 h 5 <;> by_cases c4 : A 1 h 6 < t <;> simp [c1, c2, c3, c4, bI]
theorem m_quiet (hM : zMr σ A) (hd : A 0 5 0 ≠ 0) {h : Nat} (hh : h < 12) : F_Model_isQuiet (nI h) σ = some (bI (aQuiet A h (aT A))) := by
  rw [F_Model_isQuiet, hM.sc (k := 5) (by decide), hM.sc (k := 8) (by decide), if_pos hd, m_quietAt hM hh, Option.bind_some, if_pos (bI_01 _)]
  rfl
theorem m_isCorrected (hM : zMr σ A) {w : Nat} (hw : w < 20) : F_Model_isCorrected (nI w) σ = some (bI (aCor A w)) := by
  rw [F_Model_isCorrected, m_story4 hM hw, Option.bind_some]
  by_cases c : A 2 w 4 = -1 <;> simp [c, aCor, bI]
theorem m_distance (hM : zMr σ A) {h k : Nat} (hh : h < 12) (hk : k < 12) : F_Model_distance (nI h) (nI k) σ = some (aDist A h k) := by
  rw [F_Model_distance, m_of0 hM hh, m_of0 hM hk, m_of1 hM hh, m_of1 hM hk]
  rfl
theorem m_isInRange (hM : zMr σ A) {h k : Nat} (hh : h < 12) (hk : k < 12) : F_Model_isInRange (nI h) (nI k) σ = some (bI (aRng A h k)) := by
  rw [F_Model_isInRange, m_distance hM hh hk, m_of2 hM hh]
  simp only [Option.bind_some, aRng, nI_eq (show h < 2 ^ 31 by omega) (show k < 2 ^ 31 by omega)]
  by_cases c1 : h = k
  · simp [c1, bI]
  · by_cases c2 : A 1 h 2 * A 1 h 2 < aDist A h k <;> simp [c1, c2, bI]
theorem m_isOwed (hM : zMr σ A) {h k w : Nat} (hh : h < 12) (hk : k < 12) (hw : w < 20) : F_Model_isOwed (nI h) (nI k) (nI w) σ = some (bI (aOw A h k w)) := by
  rw [F_Model_isOwed, m_pair2 hM hh hw, m_pair2 hM hk hw]
  simp only [Option.bind_some, B_Model_isOwed_27, m_pair1 hM hh hw, m_pair1 hM hk hw, aOw]
  by_cases c1 : A 5 h w = nI k <;> by_cases c2 : A 5 k w = nI h <;> by_cases c3 : A 4 h w = 1 <;> by_cases c4 : A 4 k w = 0 <;> simp [c1, c2, c3, c4, bI]
theorem m_knows (hM : zMr σ A) {h w s : Nat} (hh : h < 12) (hw : w < 20) (hs : s < 3) : F_Model_knows (nI h) (nI w) (nI s) σ = some (bI (aKn A h w s)) := by
  rw [F_Model_knows]
  rcases (show s = 0 ∨ s = 1 ∨ s = 2 by omega) with rfl | rfl | rfl
  · rw [if_neg (by decide), show (0 : Int32) + nI 0 = 0 from rfl, m_pair0 hM hh hw, Option.bind_some]
    by_cases c : A 3 h w = 1 <;> simp [c, aKn, bI]
  · rw [if_neg (by decide), show (0 : Int32) + nI 1 = 1 from rfl, m_pair1 hM hh hw, Option.bind_some]
    by_cases c : A 4 h w = 1 <;> simp [c, aKn, bI]
  · rw [if_pos (by decide), m_isCorrected hM hw, m_pair0 hM hh hw, m_pair1 hM hh hw]
    simp only [Option.bind_some]
    cases c0 : aCor A w <;> by_cases c : A 3 h w = 1 <;> by_cases c2 : A 4 h w = 0 <;> simp [c0, c, c2, aKn, bI]
theorem m_quietHouses (hM : zMr σ A) (hZ : zSz A n m) (hd : A 0 5 0 ≠ 0) : F_Model_quietHouses σ = some (zm (fun h => aQuiet A h (aT A)) n) := by
  obtain ⟨hn, hm, hn12, hm20⟩ := hZ
  have hn' := (hM.sc (k := 6) (by decide)).trans hn
  have hm' := (hM.sc (k := 7) (by decide)).trans hm
  rw [F_Model_quietHouses]
  refine z_maskS (fun j a x => L_Model_quietHouses σ j 0 a x) (by omega) _ (fun k hk hP j a => ?_) (fun k hk hP j a => ?_) (fun j a => ?_)
  · try dsimp only
    rw [e_Model_quietHouses_0, hn', if_neg (nI_ge hk (by omega)), m_quiet hM hd (by omega), Option.bind_some, if_neg (bI_t hP)]
  · try dsimp only
    rw [e_Model_quietHouses_0, hn', if_neg (nI_ge hk (by omega)), m_quiet hM hd (by omega), Option.bind_some, if_pos (bI_f hP)]
  · try dsimp only
    rw [e_Model_quietHouses_0, hn', if_pos (nI_le0 (by omega))]
theorem m_near (hM : zMr σ A) (hZ : zSz A n m) {h : Nat} (hh : h < 12) : F_Model_housesInRange (nI h) σ = some (zm (aRng A h) n) := by
  obtain ⟨hn, hm, hn12, hm20⟩ := hZ
  have hn' := (hM.sc (k := 6) (by decide)).trans hn
  have hm' := (hM.sc (k := 7) (by decide)).trans hm
  rw [F_Model_housesInRange]
  refine z_maskS (fun j a x => L_Model_housesInRange σ j 0 (nI h) a x) (by omega) _ (fun k hk hP j a => ?_) (fun k hk hP j a => ?_) (fun j a => ?_)
  · try dsimp only
    rw [e_Model_housesInRange_0, hn', if_neg (nI_ge hk (by omega)), m_isInRange hM hh (by omega), Option.bind_some, if_neg (bI_t hP)]
  · try dsimp only
    rw [e_Model_housesInRange_0, hn', if_neg (nI_ge hk (by omega)), m_isInRange hM hh (by omega), Option.bind_some, if_pos (bI_f hP)]
  · try dsimp only
    rw [e_Model_housesInRange_0, hn', if_pos (nI_le0 (by omega))]
theorem m_owedBy (hM : zMr σ A) (hZ : zSz A n m) {h w : Nat} (hh : h < 12) (hw : w < 20) : F_Model_owedBy (nI h) (nI w) σ = some (zm (fun o => aOw A h o w) n) := by
  obtain ⟨hn, hm, hn12, hm20⟩ := hZ
  have hn' := (hM.sc (k := 6) (by decide)).trans hn
  have hm' := (hM.sc (k := 7) (by decide)).trans hm
  rw [F_Model_owedBy]
  refine z_maskS (fun j a x => L_Model_owedBy σ j 0 (nI h) (nI w) a x) (by omega) _ (fun k hk hP j a => ?_) (fun k hk hP j a => ?_) (fun j a => ?_)
  · try dsimp only
    rw [e_Model_owedBy_0, hn', if_neg (nI_ge hk (by omega)), m_isOwed hM hh (by omega) hw, Option.bind_some, if_neg (bI_t hP)]
  · try dsimp only
    rw [e_Model_owedBy_0, hn', if_neg (nI_ge hk (by omega)), m_isOwed hM hh (by omega) hw, Option.bind_some, if_pos (bI_f hP)]
  · try dsimp only
    rw [e_Model_owedBy_0, hn', if_pos (nI_le0 (by omega))]
theorem m_newsOf (hM : zMr σ A) (hZ : zSz A n m) {h s : Nat} (hh : h < 12) (hs : s < 3) : F_Model_newsOf (nI h) (nI s) σ = some (zm (fun w => aKn A h w s) m) := by
  obtain ⟨hn, hm, hn12, hm20⟩ := hZ
  have hn' := (hM.sc (k := 6) (by decide)).trans hn
  have hm' := (hM.sc (k := 7) (by decide)).trans hm
  rw [F_Model_newsOf]
  refine z_maskS (fun j a x => L_Model_newsOf σ j 0 (nI h) (nI s) a x) (by omega) _ (fun k hk hP j a => ?_) (fun k hk hP j a => ?_) (fun j a => ?_)
  · try dsimp only
    rw [e_Model_newsOf_0, hm', if_neg (nI_ge hk (by omega)), m_knows hM hh (by omega) hs, Option.bind_some, if_neg (bI_t hP)]
  · try dsimp only
    rw [e_Model_newsOf_0, hm', if_neg (nI_ge hk (by omega)), m_knows hM hh (by omega) hs, Option.bind_some, if_pos (bI_f hP)]
  · try dsimp only
    rw [e_Model_newsOf_0, hm', if_pos (nI_le0 (by omega))]
theorem m_housesOf (hM : zMr σ A) (hZ : zSz A n m) {w s : Nat} (hw : w < 20) (hs : s < 3) : F_Model_housesOf (nI w) (nI s) σ = some (zm (fun h => aKn A h w s) n) := by
  obtain ⟨hn, hm, hn12, hm20⟩ := hZ
  have hn' := (hM.sc (k := 6) (by decide)).trans hn
  have hm' := (hM.sc (k := 7) (by decide)).trans hm
  rw [F_Model_housesOf]
  refine z_maskS (fun j a x => L_Model_housesOf σ j 0 (nI w) (nI s) a x) (by omega) _ (fun k hk hP j a => ?_) (fun k hk hP j a => ?_) (fun j a => ?_)
  · try dsimp only
    rw [e_Model_housesOf_0, hn', if_neg (nI_ge hk (by omega)), m_knows hM (by omega) hw hs, Option.bind_some, if_neg (bI_t hP)]
  · try dsimp only
    rw [e_Model_housesOf_0, hn', if_neg (nI_ge hk (by omega)), m_knows hM (by omega) hw hs, Option.bind_some, if_pos (bI_f hP)]
  · try dsimp only
    rw [e_Model_housesOf_0, hn', if_pos (nI_le0 (by omega))]
theorem m_entriesOf (hM : zMr σ A) (hZ : zSz A n m) {h : Nat} (hh : h < 12) : F_Model_entriesOf (nI h) σ = some (zs (fun w => A 7 h w + A 10 h w) m) := by
  obtain ⟨hn, hm, hn12, hm20⟩ := hZ
  have hn' := (hM.sc (k := 6) (by decide)).trans hn
  have hm' := (hM.sc (k := 7) (by decide)).trans hm
  rw [F_Model_entriesOf]
  refine z_sum (fun j a x => L_Model_entriesOf σ j 0 (nI h) a x) (by omega) _ (fun k hk j a => ?_) (fun j a => ?_)
  · try dsimp only
    rw [e_Model_entriesOf_0, hm', if_neg (nI_ge hk (by omega)), m_pair4 hM hh (by omega), Option.bind_some, m_pair7 hM hh (by omega), Option.bind_some]
  · try dsimp only
    rw [e_Model_entriesOf_0, hm', if_pos (nI_le0 (by omega))]
theorem m_allEntries (hM : zMr σ A) (hZ : zSz A n m) : F_Model_allEntries σ = some (zs (fun h => zs (fun w => A 7 h w + A 10 h w) m) n) := by
  obtain ⟨hn, hm, hn12, hm20⟩ := hZ
  have hn' := (hM.sc (k := 6) (by decide)).trans hn
  have hm' := (hM.sc (k := 7) (by decide)).trans hm
  rw [F_Model_allEntries]
  refine z_sum (fun j a x => L_Model_allEntries σ j 0 a x) (by omega) _ (fun k hk j a => ?_) (fun j a => ?_)
  · try dsimp only
    rw [e_Model_allEntries_0, hn', if_neg (nI_ge hk (by omega)), m_entriesOf hM ⟨hn, hm, hn12, hm20⟩ (by omega), Option.bind_some]
  · try dsimp only
    rw [e_Model_allEntries_0, hn', if_pos (nI_le0 (by omega))]
theorem m_correctedNews (hM : zMr σ A) (hZ : zSz A n m) : F_Model_correctedNews σ = some (zs (fun w => bI (aCor A w)) m) := by
  obtain ⟨hn, hm, hn12, hm20⟩ := hZ
  have hn' := (hM.sc (k := 6) (by decide)).trans hn
  have hm' := (hM.sc (k := 7) (by decide)).trans hm
  rw [F_Model_correctedNews]
  refine z_sum (fun j a x => L_Model_correctedNews σ j 0 a x) (by omega) _ (fun k hk j a => ?_) (fun j a => ?_)
  · try dsimp only
    rw [e_Model_correctedNews_0, hm', if_neg (nI_ge hk (by omega)), m_isCorrected hM (by omega), Option.bind_some]
    cases aCor A k <;> simp [bI]
  · try dsimp only
    rw [e_Model_correctedNews_0, hm', if_pos (nI_le0 (by omega))]
theorem m_shares (hM : zMr σ A) (hZ : zSz A n m) {P : Nat → Bool} : F_Model_shares (zm P n) σ = some (zs (fun h => if P h = true then A 1 h 4 else 0) n) := by
  obtain ⟨hn, hm, hn12, hm20⟩ := hZ
  have hn' := (hM.sc (k := 6) (by decide)).trans hn
  have hm' := (hM.sc (k := 7) (by decide)).trans hm
  rw [F_Model_shares]
  refine z_sum (fun j a x => L_Model_shares σ j 0 (zm P n) a x) (by omega) _ (fun k hk j a => ?_) (fun j a => ?_)
  · try dsimp only
    rw [e_Model_shares_0, hn', if_neg (nI_ge hk (by omega)), m_of4 hM (by omega), Option.bind_some, zm_get (by omega) hk]
    cases P k <;> simp
  · try dsimp only
    rw [e_Model_shares_0, hn', if_pos (nI_le0 (by omega))]
theorem m_size {P : Nat → Bool} {k : Nat} (hk : k ≤ 20) : F_Model_size (zm P k) σ = some (nI (fb_ct P k)) := by
  rw [F_Model_size, ← fb_fit P k 20 hk, ← zs_ct]
  refine z_sum (fun j a x => L_Model_size σ j 0 (zm P k) a x) (by omega) _ (fun i hi j a => ?_) (fun j a => ?_)
  · try dsimp only
    rw [e_Model_size_0, if_neg (show ¬ (20 : Int32) ≤ nI i from nI_ge (b := 20) hi (by omega))]
    congr 1
    rcases Nat.lt_or_ge i k with q | q
    · rw [zm_get (by omega) q]
      cases P i <;> simp [bI, q]
    · rw [zm_get0 (by omega) q (by omega)]
      simp [bI, Nat.not_lt.mpr q]
  · try dsimp only
    rw [e_Model_size_0, if_pos (show (20 : Int32) ≤ nI 20 by decide)]
theorem m_greatest (hM : zMr σ A) (hZ : zSz A n m) {w : Nat} (hw : w < 20) : F_Model_greatestHops (nI w) σ = some (zmx (fun h => A 6 h w) n) := by
  obtain ⟨hn, hm, hn12, hm20⟩ := hZ
  have hn' := (hM.sc (k := 6) (by decide)).trans hn
  rw [F_Model_greatestHops]
  refine z_for (fun j k => L_Model_greatestHops σ j 0 (nI w) (zmx (fun h => A 6 h w) k) (nI k)) n _ (fun k hk j => ?_) (fun j => ?_) zK (zK_lt (by omega))
  · try dsimp only
    rw [e_Model_greatestHops_0, hn', if_neg (nI_ge hk (by omega)), m_pair3 hM (by omega) hw, Option.bind_some, nI_1]
    rfl
  · try dsimp only
    rw [e_Model_greatestHops_0, hn', if_pos (nI_le0 (by omega))]
theorem m_isHouse1 (hM : zMr σ A) (hZ : zSz A n m) {h : Nat} (hh : h < n) : F_Model_isHouse (nI h) σ = some 1 := by
  obtain ⟨hn, hm, hn12, hm20⟩ := hZ
  rw [F_Model_isHouse, (hM.sc (k := 6) (by decide)).trans hn, F_Model_isBetween, if_neg (nI_pos (by omega)), show (1 : Int32) = nI 1 from rfl, pk_sub (by omega), if_neg (nI_nlt (by omega) (by omega)), Option.bind_some, if_pos (Or.inr rfl)]
theorem m_isHouse0 (hM : zMr σ A) (hZ : zSz A n m) {x : Int32} (hx : x < 0 ∨ nI n ≤ x) : F_Model_isHouse x σ = some 0 := by
  obtain ⟨hn, hm, hn12, hm20⟩ := hZ
  rw [F_Model_isHouse, (hM.sc (k := 6) (by decide)).trans hn, F_Model_isBetween]
  by_cases c : x < 0
  · rw [if_pos c]; rfl
  · rw [if_neg c]
    have h1 : nI n ≤ x := hx.resolve_left c
    have h2 : nI n - 1 < x := by
      rw [Int32.lt_iff_toInt_lt]
      rw [Int32.le_iff_toInt_le] at h1
      rw [nI_toInt (by omega)] at h1
      have e : (nI n - 1).toInt = (n : Int) - 1 := pk_sub_toInt (a := n) (b := 1) (by omega) (by omega)
      omega
    rw [if_pos h2]; rfl
theorem m_isNews1 (hM : zMr σ A) (hZ : zSz A n m) {h : Nat} (hh : h < m) : F_Model_isNews (nI h) σ = some 1 := by
  obtain ⟨hn, hm, hn12, hm20⟩ := hZ
  rw [F_Model_isNews, (hM.sc (k := 7) (by decide)).trans hm, F_Model_isBetween, if_neg (nI_pos (by omega)), show (1 : Int32) = nI 1 from rfl, pk_sub (by omega), if_neg (nI_nlt (by omega) (by omega)), Option.bind_some, if_pos (Or.inr rfl)]
theorem m_isNews0 (hM : zMr σ A) (hZ : zSz A n m) {x : Int32} (hx : x < 0 ∨ nI m ≤ x) : F_Model_isNews x σ = some 0 := by
  obtain ⟨hn, hm, hn12, hm20⟩ := hZ
  rw [F_Model_isNews, (hM.sc (k := 7) (by decide)).trans hm, F_Model_isBetween]
  by_cases c : x < 0
  · rw [if_pos c]; rfl
  · rw [if_neg c]
    have h1 : nI m ≤ x := hx.resolve_left c
    have h2 : nI m - 1 < x := by
      rw [Int32.lt_iff_toInt_lt]
      rw [Int32.le_iff_toInt_le] at h1
      rw [nI_toInt (by omega)] at h1
      have e : (nI m - 1).toInt = (m : Int) - 1 := pk_sub_toInt (a := m) (b := 1) (by omega) (by omega)
      omega
    rw [if_pos h2]; rfl
end MQ
