/-! the class's minute -/
section CV
variable {σ : zSt} {A : zAb} {n m T v : Nat} {c : Int32}
theorem aNear_cg2 {A' : zAb} (a : ∀ i j, j < 3 → A' 1 i j = A 1 i j) (h : Nat) : aNear A' n h = aNear A n h := zm_congr (fun i _ => by unfold aRng aDist; simp only [a _ 0 (by decide), a _ 1 (by decide), a _ 2 (by decide)])
theorem zVr.cgs {σ' : zSt} (hR : zVr σ v A n m c) (e : ∀ o i, o ≠ 59 → o ≠ 61 → σ'.1 v o i = σ.1 v o i) : zVr σ' v A n m c := by
  obtain ⟨r1, r2, r3, r4, r5, r6⟩ := hR
  exact ⟨r1.cg (fun o i q => e o i (by omega) (by omega)) (fun _ _ => rfl) rfl, r2.cg (fun o i _ _ => e o i (by omega) (by omega)) (fun _ _ => rfl), r3.cg (fun o i _ _ => e o i (by omega) (by omega)) (fun _ _ _ _ => rfl), r4.cg (fun o i _ => e o i (by omega) (by omega)) (fun _ _ _ _ => rfl), r5.cg (fun o i _ => e o i (by omega) (by omega)) (fun _ _ _ _ _ => rfl), r6.cg (fun o i _ => e o i (by omega) (by omega)) (fun _ _ => rfl)⟩
theorem R_note (hR : zVr σ v A n m c) {s w : Nat} {k : Bool} {hm tm : Int32} : zVr σ v (aNote A s k w hm tm) n m c := by
  obtain ⟨r1, r2, r3, r4, r5, r6⟩ := hR
  have e : ∀ f i j, f ≠ 12 → ¬ (f = 0 ∧ i = 11) → aNote A s k w hm tm f i j = A f i j := fun f i j a b => by rw [aNote, if_neg (by omega), if_neg (by omega)]
  exact ⟨r1.cg (fun _ _ _ => rfl) (fun k hk => e _ _ _ (by decide) (by omega)) (e _ _ _ (by decide) (by omega)), r2.cg (fun _ _ _ _ => rfl) (fun i j => e _ _ _ (by decide) (by omega)), r3.cg (fun _ _ _ _ => rfl) (fun f i j q => e _ _ _ (by omega) (by omega)), r4.cg (fun _ _ _ => rfl) (fun f i j q => e _ _ _ (by omega) (by omega)), r5.cg (fun _ _ _ => rfl) (fun f i j q _ => e _ _ _ (by omega) (by omega)), r6.cg (fun _ _ _ => rfl) (fun i j => e _ _ _ (by decide) (by omega))⟩
theorem R_h3 (hR : zVr σ v A n m c) (h : Nat) (x : Int32) : zVr (zst σ v 11 h x) v (aup A 1 h 3 x) n m c := by
  obtain ⟨r1, r2, r3, r4, r5, r6⟩ := hR
  refine ⟨r1.cg (fun o i q => by rw [zst_at, if_neg (by omega)]) (fun k _ => by simp [aup]) (by simp [aup]), ?_, r3.cg (fun o i q q2 => by rw [zst_at, if_neg (by omega)]) (fun f i j q => by rw [aup, if_neg (by omega)]), r4.cg (fun o i q => by rw [zst_at, if_neg (by omega)]) (fun f i j q => by rw [aup, if_neg (by omega)]), r5.cg (fun o i q => by rw [zst_at, if_neg (by omega)]) (fun f i j q _ => by rw [aup, if_neg (by omega)]), r6.cg (fun o i q => by rw [zst_at, if_neg (by omega)]) (fun i j => by simp [aup])⟩
  intro i hi
  obtain ⟨h0, h1, h2, h3, h4, h5, h6, h7, h8, h9⟩ := r2 i hi
  have y : ∀ i j, j ≠ 3 → aup A 1 h 3 x 1 i j = A 1 i j := fun i j q => by rw [aup, if_neg (by omega)]
  have x : ∀ o j, o ≠ 11 → (zst σ v 11 h x).1 v o j = σ.1 v o j := fun o j q => by rw [zst_at, if_neg (by omega)]
  refine ⟨by rw [x 5 _ (by decide), y _ 0 (by decide)]; exact h0, by rw [x 7 _ (by decide), y _ 1 (by decide)]; exact h1, by rw [x 9 _ (by decide), y _ 2 (by decide)]; exact h2, ?_, by rw [x 13 _ (by decide), y _ 4 (by decide)]; exact h4, by rw [x 15 _ (by decide), y _ 5 (by decide)]; exact h5, by rw [x 17 _ (by decide), y _ 6 (by decide)]; exact h6, by rw [x 19 _ (by decide), y _ 7 (by decide)]; exact h7, by rw [x 21 _ (by decide), y _ 8 (by decide)]; exact h8, by rw [x 23 _ (by decide), aNear_cg2 (fun i j q => y i j (by omega))]; exact h9⟩
  rw [zst_at]
  by_cases z : i = h
  · subst z; simp [aup]
  · rw [if_neg (by omega)]; simp [aup, z]; exact h3
theorem R_h7 (hR : zVr σ v A n m c) (h : Nat) (x : Int32) : zVr (zst σ v 19 h x) v (aup A 1 h 7 x) n m c := by
  obtain ⟨r1, r2, r3, r4, r5, r6⟩ := hR
  refine ⟨r1.cg (fun o i q => by rw [zst_at, if_neg (by omega)]) (fun k _ => by simp [aup]) (by simp [aup]), ?_, r3.cg (fun o i q q2 => by rw [zst_at, if_neg (by omega)]) (fun f i j q => by rw [aup, if_neg (by omega)]), r4.cg (fun o i q => by rw [zst_at, if_neg (by omega)]) (fun f i j q => by rw [aup, if_neg (by omega)]), r5.cg (fun o i q => by rw [zst_at, if_neg (by omega)]) (fun f i j q _ => by rw [aup, if_neg (by omega)]), r6.cg (fun o i q => by rw [zst_at, if_neg (by omega)]) (fun i j => by simp [aup])⟩
  intro i hi
  obtain ⟨h0, h1, h2, h3, h4, h5, h6, h7, h8, h9⟩ := r2 i hi
  have y : ∀ i j, j ≠ 7 → aup A 1 h 7 x 1 i j = A 1 i j := fun i j q => by rw [aup, if_neg (by omega)]
  have x : ∀ o j, o ≠ 19 → (zst σ v 19 h x).1 v o j = σ.1 v o j := fun o j q => by rw [zst_at, if_neg (by omega)]
  refine ⟨by rw [x 5 _ (by decide), y _ 0 (by decide)]; exact h0, by rw [x 7 _ (by decide), y _ 1 (by decide)]; exact h1, by rw [x 9 _ (by decide), y _ 2 (by decide)]; exact h2, by rw [x 11 _ (by decide), y _ 3 (by decide)]; exact h3, by rw [x 13 _ (by decide), y _ 4 (by decide)]; exact h4, by rw [x 15 _ (by decide), y _ 5 (by decide)]; exact h5, by rw [x 17 _ (by decide), y _ 6 (by decide)]; exact h6, ?_, by rw [x 21 _ (by decide), y _ 8 (by decide)]; exact h8, by rw [x 23 _ (by decide), aNear_cg2 (fun i j q => y i j (by omega))]; exact h9⟩
  rw [zst_at]
  by_cases z : i = h
  · subst z; simp [aup]
  · rw [if_neg (by omega)]; simp [aup, z]; exact h7
theorem R_h8 (hR : zVr σ v A n m c) (h : Nat) (x : Int32) : zVr (zst σ v 21 h x) v (aup A 1 h 8 x) n m c := by
  obtain ⟨r1, r2, r3, r4, r5, r6⟩ := hR
  refine ⟨r1.cg (fun o i q => by rw [zst_at, if_neg (by omega)]) (fun k _ => by simp [aup]) (by simp [aup]), ?_, r3.cg (fun o i q q2 => by rw [zst_at, if_neg (by omega)]) (fun f i j q => by rw [aup, if_neg (by omega)]), r4.cg (fun o i q => by rw [zst_at, if_neg (by omega)]) (fun f i j q => by rw [aup, if_neg (by omega)]), r5.cg (fun o i q => by rw [zst_at, if_neg (by omega)]) (fun f i j q _ => by rw [aup, if_neg (by omega)]), r6.cg (fun o i q => by rw [zst_at, if_neg (by omega)]) (fun i j => by simp [aup])⟩
  intro i hi
  obtain ⟨h0, h1, h2, h3, h4, h5, h6, h7, h8, h9⟩ := r2 i hi
  have y : ∀ i j, j ≠ 8 → aup A 1 h 8 x 1 i j = A 1 i j := fun i j q => by rw [aup, if_neg (by omega)]
  have x : ∀ o j, o ≠ 21 → (zst σ v 21 h x).1 v o j = σ.1 v o j := fun o j q => by rw [zst_at, if_neg (by omega)]
  refine ⟨by rw [x 5 _ (by decide), y _ 0 (by decide)]; exact h0, by rw [x 7 _ (by decide), y _ 1 (by decide)]; exact h1, by rw [x 9 _ (by decide), y _ 2 (by decide)]; exact h2, by rw [x 11 _ (by decide), y _ 3 (by decide)]; exact h3, by rw [x 13 _ (by decide), y _ 4 (by decide)]; exact h4, by rw [x 15 _ (by decide), y _ 5 (by decide)]; exact h5, by rw [x 17 _ (by decide), y _ 6 (by decide)]; exact h6, by rw [x 19 _ (by decide), y _ 7 (by decide)]; exact h7, ?_, by rw [x 23 _ (by decide), aNear_cg2 (fun i j q => y i j (by omega))]; exact h9⟩
  rw [zst_at]
  by_cases z : i = h
  · subst z; simp [aup]
  · rw [if_neg (by omega)]; simp [aup, z]; exact h8
theorem R_spent (hR : zVr σ v A n m c) (x : Int32) : zVr (zst σ v 0 3 (σ.1 v 0 3 + x)) v (aup A 13 23 0 (A 13 23 0 + x)) n m c := by
  obtain ⟨r1, r2, r3, r4, r5, r6⟩ := hR
  refine ⟨?_, r2.cg (fun o i q _ => by rw [zst_at, if_neg (by omega)]) (fun i j => by simp [aup]), r3.cg (fun o i q q2 => by rw [zst_at, if_neg (by omega)]) (fun f i j q => by rw [aup, if_neg (by omega)]), r4.cg (fun o i q => by rw [zst_at, if_neg (by omega)]) (fun f i j q => by rw [aup, if_neg (by omega)]), r5.cg (fun o i q => by rw [zst_at, if_neg (by omega)]) (fun f i j q _ => by rw [aup, if_neg (by omega)]), r6.cg (fun o i q => by rw [zst_at, if_neg (by omega)]) (fun i j => by simp [aup])⟩
  obtain ⟨h1, h2, h3, h4, h5, h6, h7⟩ := r1
  refine ⟨?_, ?_, ?_, ?_, ?_, ?_, fun k hk => ?_⟩
  · rw [zst_at, if_neg (by omega), h1]; simp [aup]
  · rw [zst_at, if_neg (by omega), h2]; simp [aup]
  · rw [zst_at, if_neg (by omega), h3]; simp [aup]
  · rw [zst_at, if_pos ⟨rfl, rfl, rfl⟩, h4]
    simp only [aup, true_and, if_true]
    rw [Int32.add_assoc, Int32.add_comm c, ← Int32.add_assoc]
  · rw [zst_at, if_neg (by omega), h5]
  · rw [zst_at, if_neg (by omega), h6]
  · rw [zst_at, if_neg (by omega), h7 k hk]; simp [aup]
theorem R_time (hR : zVr σ v A n m c) (x : Int32) : zVr (zst σ v 0 1 x) v (aup A 0 8 0 x) n m c := by
  obtain ⟨r1, r2, r3, r4, r5, r6⟩ := hR
  refine ⟨?_, r2.cg (fun o i q _ => by rw [zst_at, if_neg (by omega)]) (fun i j => by simp [aup]), r3.cg (fun o i q q2 => by rw [zst_at, if_neg (by omega)]) (fun f i j q => by rw [aup, if_neg (by omega)]), r4.cg (fun o i q => by rw [zst_at, if_neg (by omega)]) (fun f i j q => by rw [aup, if_neg (by omega)]), r5.cg (fun o i q => by rw [zst_at, if_neg (by omega)]) (fun f i j q _ => by rw [aup, if_neg (by omega)]), r6.cg (fun o i q => by rw [zst_at, if_neg (by omega)]) (fun i j => by simp [aup])⟩
  obtain ⟨h1, h2, h3, h4, h5, h6, h7⟩ := r1
  refine ⟨?_, ?_, ?_, ?_, ?_, ?_, fun k hk => ?_⟩
  · rw [zst_at, if_neg (by omega), h1]; simp [aup]
  · rw [zst_at, if_pos ⟨rfl, rfl, rfl⟩]; simp [aup]
  · rw [zst_at, if_neg (by omega), h3]; simp [aup]
  · rw [zst_at, if_neg (by omega), h4]; simp [aup]
  · rw [zst_at, if_neg (by omega), h5]
  · rw [zst_at, if_neg (by omega), h6]
  · have : ¬ k = 8 := by omega
    rw [zst_at, if_neg (by omega), h7 k hk]; simp [aup, this]
theorem zVr.cga {B : zAb} (hR : zVr σ v A n m c) (e : ∀ f i j, A f i j = B f i j) : zVr σ v B n m c := by
  have : A = B := funext fun f => funext fun i => funext fun j => e f i j
  rw [← this]; exact hR
theorem zVr.cgb {B : zAb} (hR : zVr σ v A n m c) (e : ∀ f i j, ¬ (f = 0 ∧ 10 ≤ i) → A f i j = B f i j) : zVr σ v B n m c := by
  obtain ⟨r1, r2, r3, r4, r5, r6⟩ := hR
  exact ⟨r1.cg (fun _ _ _ => rfl) (fun k hk => (e _ _ _ (by omega)).symm) (e _ _ _ (by omega)).symm, r2.cg (fun _ _ _ _ => rfl) (fun i j => (e _ _ _ (by omega)).symm), r3.cg (fun _ _ _ _ => rfl) (fun f i j q => (e _ _ _ (by omega)).symm), r4.cg (fun _ _ _ => rfl) (fun f i j q => (e _ _ _ (by omega)).symm), r5.cg (fun _ _ _ => rfl) (fun f i j q _ => (e _ _ _ (by omega)).symm), r6.cg (fun _ _ _ => rfl) (fun i j => (e _ _ _ (by omega)).symm)⟩
theorem aInv_cga {B : zAb} (hI : aInv A n m T) (e : ∀ f i j, A f i j = B f i j) : aInv B n m T := by
  have : A = B := funext fun f => funext fun i => funext fun j => e f i j
  rw [← this]; exact hI
theorem c_addBat (hR : zVr σ v A n m c) (hI : aInv A n m T) {h : Nat} (hh : h < n) (x : Int32) : F_Homes_addToBattery v (nI h) x σ = some (zst σ v 11 h (if (0 : Int32) < (if A 1 h 3 + x < 999 then A 1 h 3 + x else 999) then (if A 1 h 3 + x < 999 then A 1 h 3 + x else 999) else 0)) := by
  have hn := hI.1.2.2.1
  rw [F_Homes_addToBattery, r_get10 (by omega), Option.bind_some, r_put10 (by omega), Option.bind_some, (hR.2.1 h hh).2.2.2.1]
theorem c_beginDay (hR : zVr σ v A n m c) (hI : aInv A n m T) : zOk (F_Village_beginDay v σ) (fun σ' => zVr σ' v (aBegin A n) n m c ∧ zJk v σ σ') := by
  have hn := hI.1.2.2.1
  have eT := hI.2.1.2.1
  have hT := hI.2.1.2.2.1
  rw [F_Village_beginDay, hR.1.2.1, eT]
  refine zOk.ite (fun q => ?_) (fun q => ?_)
  · rw [show aBegin A n = A from if_neg (fun z => by rw [eT, q] at z; exact absurd z.1 (by decide))]
    exact ⟨_, rfl, hR, zJk.rf⟩
  · have h0 : 0 < A 0 8 0 := by
      rw [eT, Int32.lt_iff_toInt_lt, nI_toInt (by omega)]
      have : (0 : Int32).toInt = 0 := by decide
      rw [this]
      rcases Nat.eq_zero_or_pos T with z | z
      · subst z; exact absurd rfl q
      · omega
    refine zOk.eq (c_minuteOfDay hR hI) ?_
    refine zOk.ite (fun q2 => ?_) (fun q2 => ?_)
    · rw [show aBegin A n = aDay A n from if_pos ⟨h0, q2⟩]
      have k2 : F_Row_get v 1 (2 : Int32) σ = some (A 0 2 0) := by rw [show (2 : Int32) = nI 2 from rfl, r_get1 (by decide), hR.1.2.2.2.2.2.2 2 (by decide)]
      refine zOk.eq k2 (zOk.bind (P := fun σ' => zVr σ' v (aDay A n) n m c ∧ zJk v σ σ') ?_ (fun s p => ⟨_, rfl, p⟩))
      rw [F_Homes_beginDay]
      refine z_loopC (fun j k st => L_Homes_beginDay v j 0 (A 0 2 0) (nI k) st) n 0 (fun k st => zVr st v (aDay A k) n m c ∧ zJk v σ st) _ (fun k st hk hJ j kk => ?_) (fun st hJ j hj => ?_) zK σ (zK_lt (by omega)) ⟨hR.cga (fun f i j => by simp [aDay]), zJk.rf⟩
      · try dsimp only
        have hn' : st.1 v 3 0 = nI n := hJ.1.1.2.2.2.2.1
        rw [e_Homes_beginDay_0, hn', if_neg (nI_ge hk (by omega))]
        have hIk : aInv (aDay A k) n m T := by
          refine ⟨zSz_cg (fun k _ => by simp [aDay]) hI.1, aSc_cg (fun k _ => by simp [aDay]) hI.2.1, fun h hh => ?_, fun w hw q h hh => by simpa [aDay] using hI.2.2.2.1 w hw (by simpa [aDay] using q) h hh, fun h w hh hw => aPf_cg (fun f a b => by rw [aDay, if_neg (by omega), if_neg (by omega)]) (hI.2.2.2.2 h w hh hw)⟩
          obtain ⟨g0, g1, g2, g3, g4⟩ := hI.2.2.1 h hh
          refine ⟨by simpa [aDay] using g0, by simpa [aDay] using g1, by simpa [aDay] using g2, ?_, by simpa [aDay] using g4⟩
          by_cases y : h < k
          · rw [aDay, if_pos ⟨rfl, y, rfl⟩]; exact aBat_n hI hh
          · rw [aDay, if_neg (by omega), if_neg (by omega)]; exact g3
        refine zOk.eq (c_addBat hJ.1 hIk hk _) ?_
        have ev : (if (0 : Int32) < (if aDay A k 1 k 3 + A 0 2 0 < 999 then aDay A k 1 k 3 + A 0 2 0 else 999) then (if aDay A k 1 k 3 + A 0 2 0 < 999 then aDay A k 1 k 3 + A 0 2 0 else 999) else 0) = aBat A k := by
          have e3 : aDay A k 1 k 3 = A 1 k 3 := by rw [aDay, if_neg (by omega), if_neg (by omega)]
          rw [e3]
          obtain ⟨b, hb, eb⟩ := aBat_n hI hk
          have eb2 : (if A 1 k 3 + A 0 2 0 < 999 then A 1 k 3 + A 0 2 0 else 999) = nI b := eb
          rw [eb2, eb]
          split
          · rfl
          · rename_i z
            rw [Int32.lt_iff_toInt_lt, nI_toInt (by omega), Int32.toInt_zero] at z
            have : b = 0 := by omega
            subst this; rfl
        rw [ev]
        refine zOk.eq (r_put18 (by omega) _) ?_
        rw [nI_1]
        refine kk _ ⟨(R_h7 (R_h3 hJ.1 k (aBat A k)) k 0).cga ?_, (hJ.2.tr (zJk.st st v (o := 11) _ _ (by decide))).tr (zJk.st _ v (o := 19) _ _ (by decide))⟩
        intro f i j
        simp only [aup, aDay]
        by_cases y3 : f = 1 ∧ i = k ∧ j = 3
        · obtain ⟨rfl, rfl, rfl⟩ := y3; simp
        · by_cases y7 : f = 1 ∧ i = k ∧ j = 7
          · obtain ⟨rfl, rfl, rfl⟩ := y7; simp
          · rw [if_neg y7, if_neg y3]
            by_cases z3 : f = 1 ∧ i < k ∧ j = 3
            · rw [if_pos z3, if_pos ⟨z3.1, by omega, z3.2.2⟩]
            · rw [if_neg z3, if_neg (show ¬ (f = 1 ∧ i < k + 1 ∧ j = 3) by omega)]
              by_cases z7 : f = 1 ∧ i < k ∧ j = 7
              · rw [if_pos z7, if_pos ⟨z7.1, by omega, z7.2.2⟩]
              · rw [if_neg z7, if_neg (by omega)]
      · try dsimp only
        have hn' : st.1 v 3 0 = nI n := hJ.1.1.2.2.2.2.1
        rw [e_Homes_beginDay_0, hn', if_pos (nI_le0 (by omega))]
        exact ⟨_, rfl, hJ⟩
    · rw [show aBegin A n = A from if_neg (fun z => q2 z.2)]
      exact ⟨_, rfl, hR, zJk.rf⟩
/-- the batteries of those that hear -/
def aHr (A : zAb) (hd : Nat → Bool) (k : Nat) : zAb := fun f i j => if f = 1 ∧ i < k ∧ j = 3 ∧ hd i = true then A 1 i 3 - A 0 1 0 else A f i j
theorem aHd_sp {s h : Nat} : aHd (aSp A s) s h = aHd A s h := by
  unfold aHd
  by_cases y : s = h
  · subst y; simp [aRng]
  · have y2 : ¬ h = s := fun z => y z.symm
    have e1 : ∀ i j, j ≠ 3 → j ≠ 7 → j ≠ 8 → aSp A s 1 i j = A 1 i j := fun i j a b c => by simp [aSp, aup, a, b, c]
    have e3 : aSp A s 1 h 3 = A 1 h 3 := by simp [aSp, aup, y2]
    have e0 : ∀ k, k ≠ 10 → aSp A s 0 k 0 = A 0 k 0 := fun k a => by simp [aSp, aup, a]
    unfold aRng aDist aQuiet aT
    rw [e1 s 0 (by decide) (by decide) (by decide), e1 s 1 (by decide) (by decide) (by decide), e1 s 2 (by decide) (by decide) (by decide), e1 h 0 (by decide) (by decide) (by decide), e1 h 1 (by decide) (by decide) (by decide), e1 h 5 (by decide) (by decide) (by decide), e1 h 6 (by decide) (by decide) (by decide), e3, e0 8 (by decide), e0 5 (by decide), e0 1 (by decide)]
theorem aInv_hr (hI : aInv A n m T) (hd : Nat → Bool) (h1 : ∀ i, i < n → hd i = true → ¬ A 1 i 3 < A 0 1 0) (k : Nat) : aInv (aHr A hd k) n m T := by
  refine ⟨zSz_cg (fun k _ => by simp [aHr]) hI.1, aSc_cg (fun k _ => by simp [aHr]) hI.2.1, fun h hh => ?_, fun w hw q h hh => by simpa [aHr] using hI.2.2.2.1 w hw (by simpa [aHr] using q) h hh, fun h w hh hw => aPf_cg (fun f a b => by rw [aHr, if_neg (by omega)]) (hI.2.2.2.2 h w hh hw)⟩
  obtain ⟨g0, g1, g2, ⟨b, hb, eb⟩, g4⟩ := hI.2.2.1 h hh
  refine ⟨by simpa [aHr] using g0, by simpa [aHr] using g1, by simpa [aHr] using g2, ?_, by simpa [aHr] using g4⟩
  obtain ⟨-, -, -, -, -, ⟨x1, hx1, e1⟩, -⟩ := hI.2.1
  unfold aHr
  split
  · rename_i q
    have := h1 h hh q.2.2.2
    rw [eb, e1, nI_ltI (by omega) (by omega)] at this
    rw [eb, e1, pk_sub (by omega)]
    exact ⟨b - x1, by omega, rfl⟩
  · exact ⟨b, hb, eb⟩
theorem c_spendOnAir (hR : zVr σ v A n m c) (hI : aInv A n m T) {s : Nat} (hs : s < n) : zOk (F_Village_spendOnAir v (nI s) σ) (fun q => q.1 = zm (aHd A s) n ∧ zVr q.2 v (aSd (aSp A s) (aHd A s) n) n m c ∧ zJk v σ q.2) := by
  have hn := hI.1.2.2.1
  have k1 : F_Row_get v 1 (1 : Int32) σ = some (A 0 1 0) := by rw [show (1 : Int32) = nI 1 from rfl, r_get1 (by decide), hR.1.2.2.2.2.2.2 1 (by decide)]
  rw [F_Village_spendOnAir]
  refine zOk.eq k1 (zOk.eq (c_minuteOfDay hR hI) ?_)
  have hdl : ∀ i, i < n → aHd A s i = true → ¬ A 1 i 3 < A 0 1 0 := fun i _ q => by
    unfold aHd at q
    simp only [Bool.and_eq_true, Bool.not_eq_true', decide_eq_false_iff_not] at q
    exact q.2
  refine z_loopC (fun j k st => L_Village_spendOnAir v j 0 (nI s) (A 0 1 0) (aT A) (zm (aHd A s) k) (nI k) st) n 0 (fun k st => zVr st v (aHr A (aHd A s) k) n m c ∧ zJk v σ st) _ (fun k st hk hJ j kk => ?_) (fun st hJ j hj => ?_) zK σ (zK_lt (by omega)) ⟨hR.cga (fun f i j => by simp [aHr]), zJk.rf⟩
  · try dsimp only
    have hIk := aInv_hr hI (aHd A s) hdl k
    have hn' : st.1 v 3 0 = nI n := hJ.1.1.2.2.2.2.1
    have eN : F_Row_get v 22 (nI s) st = some (aNear A n s) := by
      rw [r_get22 (by omega), (hJ.1.2.1 s hs).2.2.2.2.2.2.2.2.2, aNear_cg2 (A := A) (fun i j q => by rw [aHr, if_neg (by omega)])]
    have eB : F_Row_get v 10 (nI k) st = some (A 1 k 3) := by
      rw [r_get10 (by omega), (hJ.1.2.1 k hk).2.2.2.1, aHr, if_neg (by omega)]
    have eQ : aQuiet (aHr A (aHd A s) k) k (aT A) = aQuiet A k (aT A) := by
      unfold aQuiet
      rw [show aHr A (aHd A s) k 1 k 5 = A 1 k 5 from by rw [aHr, if_neg (by omega)], show aHr A (aHd A s) k 1 k 6 = A 1 k 6 from by rw [aHr, if_neg (by omega)]]
    have next0 : aHd A s k = false → zOk (L_Village_spendOnAir v j 0 (nI s) (A 0 1 0) (aT A) (zm (aHd A s) k) (nI k + 1) st) _ := fun h0 => by
      have k2 := kk st ⟨hJ.1.cga (fun f i j => by
        unfold aHr
        by_cases y : f = 1 ∧ i < k ∧ j = 3 ∧ aHd A s i = true
        · rw [if_pos y, if_pos ⟨y.1, by omega, y.2.2⟩]
        · rw [if_neg y, if_neg (fun z => by
            rcases Nat.lt_or_ge i k with u | u
            · exact y ⟨z.1, u, z.2.2⟩
            · have : i = k := by omega
              subst this
              rw [h0] at z; exact absurd z.2.2.2 (by decide))]), hJ.2⟩
      rw [zm_s0 h0] at k2
      rw [nI_1]; exact k2
    rw [e_Village_spendOnAir_0, hn', if_neg (nI_ge hk (by omega))]
    refine zOk.eq eN (zOk.eq (z_contains (P := aRng A s) (by omega) hk st) ?_)
    have ehd : aHd A s k = (aRng A s k && !aQuiet A k (aT A) && !decide (A 1 k 3 < A 0 1 0)) := rfl
    cases c1 : aRng A s k with
    | false => exact zOk.pos rfl (next0 (by rw [ehd, c1]; rfl))
    | true =>
      refine zOk.neg (by decide) (zOk.eq eB (zOk.ite (fun c2 => next0 (by rw [ehd]; simp [c2])) (fun c2 => zOk.eq (c_isQuietAt hJ.1 hIk hk _) ?_)))
      rw [eQ]
      cases c3 : aQuiet A k (aT A) with
      | true => exact zOk.neg (by decide) (next0 (by rw [ehd, c3]; simp))
      | false =>
        have h1 : aHd A s k = true := by rw [ehd, c1, c3]; simp [c2]
        refine zOk.pos rfl (zOk.eq (r_add10 (by omega) _) (zOk.eq (v := (1 : Int32) <<< (nI k &&& 31)) rfl ?_))
        have e11 : st.1 v 11 k = A 1 k 3 := by rw [(hJ.1.2.1 k hk).2.2.2.1, aHr, if_neg (by omega)]
        rw [e11, ← Int32.sub_eq_add_neg]
        have k2 := kk _ ⟨(R_h3 hJ.1 k (A 1 k 3 - A 0 1 0)).cga (fun f i j => by
          show aup (aHr A (aHd A s) k) 1 k 3 (A 1 k 3 - A 0 1 0) f i j = aHr A (aHd A s) (k + 1) f i j
          unfold aup aHr
          by_cases z : f = 1 ∧ i = k ∧ j = 3
          · obtain ⟨rfl, rfl, rfl⟩ := z
            rw [if_pos ⟨rfl, rfl, rfl⟩, if_pos ⟨rfl, Nat.lt_succ_self _, rfl, h1⟩]
          · rw [if_neg z]
            by_cases y : f = 1 ∧ i < k ∧ j = 3 ∧ aHd A s i = true
            · rw [if_pos y, if_pos ⟨y.1, by omega, y.2.2⟩]
            · rw [if_neg y, if_neg (fun u => y ⟨u.1, by omega, u.2.2⟩)]), hJ.2.tr (zJk.st st v (o := 11) _ _ (by decide))⟩
        rw [zm_s1 h1] at k2
        rw [nI_1]; exact k2
  · try dsimp only
    have hn' : st.1 v 3 0 = nI n := hJ.1.1.2.2.2.2.1
    have k0 : ∀ s' : zSt, (∀ i, s'.1 v 2 i = st.1 v 2 i) → F_Row_get v 1 (0 : Int32) s' = some (A 0 0 0) := fun s' e => by
      rw [show (0 : Int32) = nI 0 from rfl, r_get1 (by decide), e, hJ.1.1.2.2.2.2.2.2 0 (by decide), aHr, if_neg (by omega)]
    rw [e_Village_spendOnAir_0, hn', if_pos (nI_le0 (by omega))]
    refine zOk.eq (k0 st (fun _ => rfl)) ?_
    have R1 := R_h3 hJ.1 s (A 1 s 3 - A 0 0 0)
    have hds : aHd A s s = false := by unfold aHd aRng; simp
    have e11 : st.1 v 11 s = A 1 s 3 := by rw [(hJ.1.2.1 s hs).2.2.2.1, aHr, if_neg (fun z => by rw [hds] at z; exact absurd z.2.2.2 (by decide))]
    refine zOk.eq (r_add10 (by omega) _) ?_
    rw [e11, ← Int32.sub_eq_add_neg]
    refine zOk.eq (r_add18 (by omega) _) ?_
    have e19 : (zst st v 11 s (A 1 s 3 - A 0 0 0)).1 v 19 s = A 1 s 7 := by
      rw [zst_at, if_neg (by omega), (hJ.1.2.1 s hs).2.2.2.2.2.2.2.1, aHr, if_neg (by omega)]
    rw [e19]
    have R2 := R_h7 R1 s (A 1 s 7 + 1)
    refine zOk.eq (r_add20 (by omega) _) ?_
    have e21 : (zst (zst st v 11 s (A 1 s 3 - A 0 0 0)) v 19 s (A 1 s 7 + 1)).1 v 21 s = A 1 s 8 := by
      rw [zst_at, if_neg (by omega), zst_at, if_neg (by omega), (hJ.1.2.1 s hs).2.2.2.2.2.2.2.2.1, aHr, if_neg (by omega)]
    rw [e21]
    have R3 := R_h8 R2 s (A 1 s 8 + 1)
    have J3 := ((hJ.2.tr (zJk.st st v (o := 11) s (A 1 s 3 - A 0 0 0) (by decide))).tr (zJk.st _ v (o := 19) s (A 1 s 7 + 1) (by decide))).tr (zJk.st _ v (o := 21) s (A 1 s 8 + 1) (by decide))
    have e2 : ∀ i, (zst (zst (zst st v 11 s (A 1 s 3 - A 0 0 0)) v 19 s (A 1 s 7 + 1)) v 21 s (A 1 s 8 + 1)).1 v 2 i = st.1 v 2 i := fun i => by
      rw [zst_at, if_neg (by omega), zst_at, if_neg (by omega), zst_at, if_neg (by omega)]
    have k00 := k0 _ e2
    generalize zst (zst (zst st v 11 s (A 1 s 3 - A 0 0 0)) v 19 s (A 1 s 7 + 1)) v 21 s (A 1 s 8 + 1) = s3 at R3 J3 k00 ⊢
    refine zOk.eq k00 (zOk.eq (z_bitCount _ (by omega)) ?_)
    refine ⟨_, rfl, rfl, (R_spent R3 (A 0 0 0 + A 0 1 0 * nI (fb_ct (aHd A s) n))).cgb (fun f i j hz => ?_), J3.tr (zJk.st s3 v (o := 0) _ _ (by decide))⟩
    unfold aup aHr aSd aSp aup
    by_cases z13 : f = 13 ∧ i = 23 ∧ j = 0
    · obtain ⟨rfl, rfl, rfl⟩ := z13
      simp [Int32.add_assoc]
    · rw [if_neg z13, if_neg z13]
      by_cases y : f = 1
      · subst y
        by_cases z : i = s
        · subst z
          by_cases j3 : j = 3
          · subst j3; simp [hds]
          · by_cases j7 : j = 7
            · subst j7; simp
            · by_cases j8 : j = 8
              · subst j8; simp
              · simp [j3, j7, j8]
        · by_cases q : i < n ∧ j = 3 ∧ aHd A s i = true
          · simp [q, z]
          · simp [q, z]
      · by_cases z0 : f = 0 ∧ i = 10 ∧ j = 0
        · exact absurd ⟨z0.1, by omega⟩ hz
        · simp [y, z13, z0]
end CV

