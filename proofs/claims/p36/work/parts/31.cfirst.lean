/-! who comes first in the class -/
theorem zbest_cong {P Q : Nat → Bool} {t t' : Nat → Int32} : ∀ {k : Nat}, (∀ i, i < k → P i = Q i) → (∀ i, i < k → P i = true → t i = t' i) → zbest P t k = zbest Q t' k
  | 0, _, _ => rfl
  | k + 1, h1, h2 => by
    have ih := zbest_cong (k := k) (fun i hi => h1 i (by omega)) (fun i hi => h2 i (by omega))
    rw [zbest, zbest, ← ih, ← h1 k (by omega)]
    cases e : zbest P t k with
    | none => rfl
    | some j =>
      obtain ⟨g1, g2, -⟩ := zbest_some e
      simp only
      by_cases q : P k = true
      · rw [h2 k (by omega) q, h2 j (by omega) g2]
      · rw [if_neg (fun z => q z.1), if_neg (fun z => q z.1)]
theorem zbest_grow {P : Nat → Bool} {t : Nat → Int32} {m : Nat} : ∀ {k : Nat}, m ≤ k → (∀ i, m ≤ i → i < k → P i = false) → zbest P t k = zbest P t m
  | 0, h, _ => by have : m = 0 := by omega
                  subst this; rfl
  | k + 1, h, hf => by
    rcases Nat.eq_or_lt_of_le h with e | e
    · rw [e]
    · have ih := zbest_grow (P := P) (t := t) (m := m) (k := k) (by omega) (fun i a b => hf i a (by omega))
      have q := hf k (by omega) (by omega)
      rw [zbest, ih]
      cases zbest P t m <;> simp [q]
theorem oI_ne {e : Nat} (he : e < 2 ^ 31) : ¬ nI e = -1 := by
  intro z
  have z2 := congrArg Int32.toInt z
  rw [nI_toInt he] at z2
  have : (-1 : Int32).toInt = -1 := by decide
  omega
theorem z_for2 {γ : Type} (T : Nat → Nat → Option γ) (N : Nat) (r : γ) (hs : ∀ k, k < N → ∀ m, T (m + 2) k = T m (k + 1)) (he : ∀ m, T (m + 1) N = some r) : ∀ m, 2 * N < m → T m 0 = some r := by
  have key : ∀ d k m, k + d = N → 2 * d < m → T m k = some r := by
    intro d
    induction d with
    | zero =>
      intro k m h hm
      obtain ⟨m', rfl⟩ : ∃ m', m = m' + 1 := ⟨m - 1, by omega⟩
      have : k = N := by omega
      subst this
      exact he m'
    | succ d ih =>
      intro k m h hm
      obtain ⟨m', rfl⟩ : ∃ m', m = m' + 2 := ⟨m - 2, by omega⟩
      rw [hs k (by omega) m']
      exact ih (k + 1) m' (by omega) (by omega)
  intro m hm
  exact key N 0 m (by omega) hm
theorem c_firstG {σ : zSt} {v o h : Nat} {P : Nat → Bool} {t : Nat → Int32} (ht : ∀ w, w < 20 → F_Entries_time v o (nI h) (nI w) σ = some (t w)) : F_Entries_first v o (nI h) (zm P 20) σ = some (oI (zbest P t 20)) := by
  rw [F_Entries_first]
  refine z_for2 (fun j k => L_Entries_first v o σ j 0 (nI h) (zm P 20) (oI (zbest P t k)) (nI k) 0) 20 _ (fun k hk j => ?_) (fun j => ?_) zK (zK_lt (by omega))
  · try dsimp only
    rw [e_Entries_first_0, if_neg (show ¬ (20 : Int32) ≤ nI k from nI_ge (b := 20) hk (by decide)), ht k hk]
    have con : ∀ σ', F_Waves_contains (zm P 20) (nI k) σ' = some (bI (P k)) := fun σ' => by rw [z_contains (by decide) hk]; rfl
    rw [zbest]
    cases e : zbest P t k with
    | none =>
      rw [if_pos (show oI none = -1 from rfl), e_Entries_first_1, con, Option.bind_some, nI_1]
      cases q : P k with
      | true => rw [if_neg (by decide), if_neg (by decide)]; rfl
      | false => rw [if_pos (show bI false = 0 from rfl)]; rfl
    | some i =>
      obtain ⟨g1, -, -⟩ := zbest_some e
      rw [if_neg (show ¬ oI (some i) = -1 from oI_ne (by omega)), show oI (some i) = nI i from rfl, ht i (by omega)]
      simp only [Option.bind_some]
      by_cases y : t i ≤ t k
      · have y2 : ¬ t k < t i := by rw [Int32.lt_iff_toInt_lt]; rw [Int32.le_iff_toInt_le] at y; omega
        rw [if_pos y, e_Entries_first_1, con, Option.bind_some, nI_1, if_neg (show ¬ (P k = true ∧ t k < t i) from fun z => y2 z.2)]
        cases q : P k with
        | true => rw [if_neg (by decide), if_pos rfl]; rfl
        | false => rw [if_pos (show bI false = 0 from rfl)]; rfl
      · have y2 : t k < t i := by rw [Int32.lt_iff_toInt_lt]; rw [Int32.le_iff_toInt_le] at y; omega
        rw [if_neg y, e_Entries_first_1, con, Option.bind_some, nI_1]
        cases q : P k with
        | true => rw [if_neg (by decide), if_neg (by decide), if_pos ⟨rfl, y2⟩]; rfl
        | false => rw [if_pos (show bI false = 0 from rfl), if_neg (by simp)]; rfl
  · try dsimp only
    rw [e_Entries_first_0, if_pos (show (20 : Int32) ≤ nI 20 by decide)]
section CF
variable {σ : zSt} {A : zAb} {n m T v : Nat} {c : Int32}
theorem c_first43 (hR : zVr σ v A n m c) (hI : aInv A n m T) {h : Nat} (hh : h < n) {P : Nat → Bool} (hP : ∀ w, w < m → P w = true → A 7 h w = 1) : F_Entries_first v 43 (nI h) (zm P m) σ = some (oI (zbest P (fun w => A 8 h w) m)) := by
  have hn := hI.1.2.2.1
  have hm := hI.1.2.2.2
  have e : zm P m = zm (fun w => P w && decide (w < m)) 20 := zm_ext (by omega) (by omega) (fun i hi => by
    by_cases q : i < m
    · have : i < 20 := by omega
      simp [q, this]
    · simp [q])
  rw [e, c_firstG (t := fun w => σ.1 v 47 (20 * h + w)) (fun w hw => by
    rw [F_Entries_time, r_cell, Option.bind_some]
    show ((F_Row_get v 46 (nI (20 * h + w)) σ).bind fun r4 => some r4) = _
    rw [r_get46 (by omega), Option.bind_some])]
  rw [zbest_grow (m := m) hm (fun i a b => by simp [Nat.not_lt.mpr a])]
  congr 2
  refine zbest_cong (fun i hi => by simp [hi]) (fun i hi hp => ?_)
  exact ((hR.2.2.2.2.1 h i hh hi).1 (hP i hi (by simpa [hi] using hp))).1
theorem c_first48 (hR : zVr σ v A n m c) (hI : aInv A n m T) {h : Nat} (hh : h < n) {P : Nat → Bool} (hP : ∀ w, w < m → P w = true → A 10 h w = 1) : F_Entries_first v 48 (nI h) (zm P m) σ = some (oI (zbest P (fun w => A 11 h w) m)) := by
  have hn := hI.1.2.2.1
  have hm := hI.1.2.2.2
  have e : zm P m = zm (fun w => P w && decide (w < m)) 20 := zm_ext (by omega) (by omega) (fun i hi => by
    by_cases q : i < m
    · have : i < 20 := by omega
      simp [q, this]
    · simp [q])
  rw [e, c_firstG (t := fun w => σ.1 v 52 (20 * h + w)) (fun w hw => by
    rw [F_Entries_time, r_cell, Option.bind_some]
    show ((F_Row_get v 51 (nI (20 * h + w)) σ).bind fun r4 => some r4) = _
    rw [r_get51 (by omega), Option.bind_some])]
  rw [zbest_grow (m := m) hm (fun i a b => by simp [Nat.not_lt.mpr a])]
  congr 2
  refine zbest_cong (fun i hi => by simp [hi]) (fun i hi hp => ?_)
  exact (hR.2.2.2.2.1 h i hh hi).2 (hP i hi (by simpa [hi] using hp))
theorem c_maySpeak (hR : zVr σ v A n m c) (hI : aInv A n m T) {h : Nat} (hh : h < n) (t : Int32) : F_Village_maySpeak v (nI h) t σ = some (bI (!aQuiet A h t && !decide (A 1 h 3 < A 0 0 0) && !decide (A 0 3 0 ≤ A 1 h 7))) := by
  have hn := hI.1.2.2.1
  have k0 : F_Row_get v 1 (0 : Int32) σ = some (A 0 0 0) := by rw [show (0 : Int32) = nI 0 from rfl, r_get1 (by decide), hR.1.2.2.2.2.2.2 0 (by decide)]
  have k3 : F_Row_get v 1 (3 : Int32) σ = some (A 0 3 0) := by rw [show (3 : Int32) = nI 3 from rfl, r_get1 (by decide), hR.1.2.2.2.2.2.2 3 (by decide)]
  rw [F_Village_maySpeak, r_get10 (by omega), (hR.2.1 h hh).2.2.2.1, k0, r_get18 (by omega), (hR.2.1 h hh).2.2.2.2.2.2.2.1, k3, c_isQuietAt hR hI hh]
  simp only [Option.bind_some]
  by_cases c1 : A 1 h 3 < A 0 0 0 <;> by_cases c2 : A 0 3 0 ≤ A 1 h 7 <;> cases c3 : aQuiet A h t <;> simp [c1, c2, bI]
theorem zbest_is {P : Nat → Bool} {t : Nat → Int32} {k : Nat} (hk : k ≤ 32) : (zbest P t k).isSome = !decide (zm P k = 0) := by
  cases e : zbest P t k with
  | none =>
    have : zm P k = 0 := (zm_zero hk).mpr (zbest_none e)
    simp [this]
  | some j =>
    obtain ⟨g1, g2, -⟩ := zbest_some e
    have : ¬ zm P k = 0 := fun z => by rw [(zm_zero hk).mp z j g1] at g2; cases g2
    simp [this]
theorem aFirst_is {A : zAb} {n m h : Nat} (hm : m ≤ 20) : (aFirst A n m h).isSome = (!decide (zm (fun w => decide (A 7 h w = 1)) m = 0) || !decide (zm (fun w => decide (A 10 h w = 1) && aSend A n h w) m = 0)) := by
  rw [← zbest_is (t := fun w => A 8 h w) (by omega), ← zbest_is (t := fun w => A 11 h w) (by omega)]
  unfold aFirst aFc aFn
  cases zbest (fun w => decide (A 10 h w = 1) && aSend A n h w) (fun w => A 11 h w) m with
  | none => cases zbest (fun w => decide (A 7 h w = 1)) (fun w => A 8 h w) m <;> rfl
  | some j => cases zbest (fun w => decide (A 7 h w = 1)) (fun w => A 8 h w) m <;> rfl
theorem c_set44 (hR : zVr σ v A n m c) (hI : aInv A n m T) {h : Nat} (hh : h < n) : F_Row_get v 44 (nI h) σ = some (zm (fun w => decide (A 7 h w = 1)) m) := by
  have hn := hI.1.2.2.1
  rw [r_get44 (by omega), (hR.2.2.2.1 h (by omega)).1]
  congr 1
  exact zm_congr (fun w _ => by simp [hh])
theorem c_wishing (hR : zVr σ v A n m c) (hI : aInv A n m T) : F_Village_wishing v σ = some (zm (aWish A n m) n) := by
  have hn := hI.1.2.2.1
  have hm := hI.1.2.2.2
  have hn' : σ.1 v 3 0 = nI n := hR.1.2.2.2.2.1
  rw [F_Village_wishing, c_minuteOfDay hR hI, Option.bind_some]
  refine z_for2 (fun j k => L_Village_wishing v σ j 0 (aT A) (zm (aWish A n m) k) (nI k) 0) n _ (fun k hk j => ?_) (fun j => ?_) zK (zK_lt (by omega))
  · try dsimp only
    rw [e_Village_wishing_0, hn', if_neg (nI_ge hk (by omega)), c_set44 hR hI hk, Option.bind_some, c_sendable hR hI hk]
    have wk : aWish A n m k = ((!aQuiet A k (aT A) && !decide (A 1 k 3 < A 0 0 0) && !decide (A 0 3 0 ≤ A 1 k 7)) && (!decide (zm (fun w => decide (A 7 k w = 1)) m = 0) || !decide (zm (fun w => decide (A 10 k w = 1) && aSend A n k w) m = 0))) := by
      rw [← aFirst_is hm]; rfl
    have one : ∀ y : Int32, y ≠ 0 → (!decide (zm (fun w => decide (A 7 k w = 1)) m = 0) || !decide (zm (fun w => decide (A 10 k w = 1) && aSend A n k w) m = 0)) = true → L_Village_wishing v σ (j + 1) 1 (aT A) (zm (aWish A n m) k) (nI k) y = L_Village_wishing v σ j 0 (aT A) (zm (aWish A n m) (k + 1)) (nI (k + 1)) 0 := by
      intro y hy ht
      rw [e_Village_wishing_1, if_neg hy, c_maySpeak hR hI hk, Option.bind_some, nI_1]
      rw [ht, Bool.and_true] at wk
      cases q : (!aQuiet A k (aT A) && !decide (A 1 k 3 < A 0 0 0) && !decide (A 0 3 0 ≤ A 1 k 7)) with
      | true => rw [q] at wk; rw [if_neg (by decide), zm_s1 wk]; rfl
      | false => rw [q] at wk; rw [if_pos (show bI false = 0 from rfl), zm_s0 wk]
    by_cases q1 : zm (fun w => decide (A 7 k w = 1)) m = 0
    · rw [if_pos q1, Option.bind_some]
      by_cases q2 : zm (fun w => decide (A 10 k w = 1) && aSend A n k w) m = 0
      · have w0 : aWish A n m k = false := by rw [wk]; simp [q1, q2]
        rw [if_pos q2, e_Village_wishing_1, if_pos rfl, nI_1, zm_s0 w0]
      · rw [if_neg q2]
        exact one 1 (by decide) (by simp [q2])
    · rw [if_neg q1]
      exact one 1 (by decide) (by simp [q1])
  · try dsimp only
    rw [e_Village_wishing_0, hn', if_pos (nI_le0 (by omega))]
theorem c_pick (hR : zVr σ v A n m c) (hI : aInv A n m T) {P : Nat → Bool} {s : Nat → Nat} (hs : ∀ i, i < n → A 1 i 4 = nI (s i) ∧ s i < 1000) : ∀ d h l j, h + d = n → l < zrest P s d h → d < j → l < 2 ^ 20 → L_Village_drawnOf v j 0 (zm P n) (nI l) (nI h) σ = some (nI (zpick P s d h l), σ) := by
  have hn := hI.1.2.2.1
  have hn' : σ.1 v 3 0 = nI n := hR.1.2.2.2.2.1
  intro d
  induction d with
  | zero => intro h l j _ hl; exact absurd hl (Nat.not_lt_zero l)
  | succ d ih =>
    intro h l j hh hl hj hl2
    obtain ⟨j, rfl⟩ : ∃ j', j = j' + 1 := ⟨j - 1, by omega⟩
    obtain ⟨s1, s2⟩ := hs h (by omega)
    rw [zrest] at hl
    rw [e_Village_drawnOf_0, hn', if_neg (nI_ge (by omega) (by omega)), z_contains (by omega) (show h < n by omega), r_get12 (by omega), (hR.2.1 h (by omega)).2.2.2.2.1, s1]
    simp only [Option.bind_some, zpick]
    by_cases q : P h = true
    · rw [if_pos q] at hl
      simp only [if_pos q]
      rw [if_neg (by decide)]
      by_cases q2 : l < s h
      · have : ¬ 0 ≤ nI l - nI (s h) := by
          rw [Int32.le_iff_toInt_le, pk_sub_toInt (by omega) (by omega)]
          have : (0 : Int32).toInt = 0 := by decide
          omega
        rw [if_neg this, if_pos q2]
      · rw [pk_sub (by omega), if_pos (nI_pos' (by omega)), if_neg q2, nI_1]
        exact ih (h + 1) (l - s h) j (by omega) (by omega) (by omega) (by omega)
    · rw [if_neg q] at hl
      simp only [if_neg q]
      rw [if_pos trivial, nI_1]
      exact ih (h + 1) l j (by omega) (by omega) (by omega) hl2
/-! what stays -/
theorem v1.cg {σ' : zSt} {A' : zAb} (h : v1 σ v A n m c) (e : ∀ o i, o ≤ 3 ∨ o = 24 → σ'.1 v o i = σ.1 v o i) (a : ∀ k, k < 10 → A' 0 k 0 = A 0 k 0) (b : A' 13 23 0 = A 13 23 0) : v1 σ' v A' n m c := by
  obtain ⟨h1, h2, h3, h4, h5, h6, h7⟩ := h
  refine ⟨?_, ?_, ?_, ?_, ?_, ?_, fun k hk => ?_⟩
  · rw [e _ _ (by omega), a _ (by decide), h1]
  · rw [e _ _ (by omega), a _ (by decide), h2]
  · rw [e _ _ (by omega), a _ (by decide), h3]
  · rw [e _ _ (by omega), b, h4]
  · rw [e _ _ (by omega), h5]
  · rw [e _ _ (by omega), h6]
  · rw [e _ _ (by omega), a k (by omega), h7 k hk]
theorem aNear_cg {A' : zAb} (a : ∀ i j, A' 1 i j = A 1 i j) (h : Nat) : aNear A' n h = aNear A n h := zm_congr (fun i _ => by unfold aRng aDist; simp only [a])
theorem v2.cg {σ' : zSt} {A' : zAb} (h : v2 σ v A n) (e : ∀ o i, 4 ≤ o → o ≤ 23 → σ'.1 v o i = σ.1 v o i) (a : ∀ i j, A' 1 i j = A 1 i j) : v2 σ' v A' n := by
  intro k hk
  obtain ⟨h1, h2, h3, h4, h5, h6, h7, h8, h9, h10⟩ := h k hk
  simp only [a, aNear_cg a]
  refine ⟨?_, ?_, ?_, ?_, ?_, ?_, ?_, ?_, ?_, ?_⟩ <;> (rw [e _ _ (by decide) (by decide)]; assumption)
theorem v3.cg {σ' : zSt} {A' : zAb} (h : v3 σ v A n m) (e : ∀ o i, 25 ≤ o → o ≤ 42 → σ'.1 v o i = σ.1 v o i) (a : ∀ f i j, f = 2 ∨ f = 3 ∨ f = 4 ∨ f = 6 → A' f i j = A f i j) : v3 σ' v A' n m := by
  intro k hk
  obtain ⟨h1, h2, h3, h4, h5, h6, h7, h8, h9⟩ := h k hk
  simp only [a 2 _ _ (by decide), a 3 _ _ (by decide), a 4 _ _ (by decide), a 6 _ _ (by decide)]
  refine ⟨?_, ?_, ?_, ?_, ?_, ?_, ?_, ?_, ?_⟩ <;> (rw [e _ _ (by decide) (by decide)]; assumption)
theorem v4.cg {σ' : zSt} {A' : zAb} (h : v4 σ v A n m) (e : ∀ o i, o = 45 ∨ o = 50 → σ'.1 v o i = σ.1 v o i) (a : ∀ f i j, f = 7 ∨ f = 10 → A' f i j = A f i j) : v4 σ' v A' n m := by
  intro k hk
  obtain ⟨h1, h2⟩ := h k hk
  simp only [a 7 _ _ (by decide), a 10 _ _ (by decide)]
  exact ⟨by rw [e _ _ (by decide)]; exact h1, by rw [e _ _ (by decide)]; exact h2⟩
theorem v5.cg {σ' : zSt} {A' : zAb} (h : v5 σ v A n m) (e : ∀ o i, o = 47 ∨ o = 52 ∨ o = 54 → σ'.1 v o i = σ.1 v o i) (a : ∀ f i j, 7 ≤ f → f ≤ 11 → A' f i j = A f i j) : v5 σ' v A' n m := by
  intro k w hk hw
  obtain ⟨h1, h2⟩ := h k w hk hw
  simp only [a 7 _ _ (by decide) (by decide), a 8 _ _ (by decide) (by decide), a 9 _ _ (by decide) (by decide), a 10 _ _ (by decide) (by decide), a 11 _ _ (by decide) (by decide)]
  exact ⟨fun z => ⟨by rw [e _ _ (by decide)]; exact (h1 z).1, by rw [e _ _ (by decide)]; exact (h1 z).2⟩, fun z => by rw [e _ _ (by decide)]; exact h2 z⟩
theorem v6.cg {σ' : zSt} {A' : zAb} (h : v6 σ v A n m) (e : ∀ o i, o = 56 ∨ o = 58 → σ'.1 v o i = σ.1 v o i) (a : ∀ i j, A' 5 i j = A 5 i j) : v6 σ' v A' n m := by
  intro k w hk hw
  obtain ⟨h1, h2⟩ := h k w hk hw
  unfold aLk at h2 ⊢
  simp only [a]
  exact ⟨by rw [e _ _ (by decide)]; exact h1, by rw [e _ _ (by decide)]; exact h2⟩
theorem v7.cg {σ' : zSt} {A' : zAb} (h : v7 σ v A) (e : ∀ o i, o = 59 ∨ o = 61 → σ'.1 v o i = σ.1 v o i) (a : A' 0 10 0 = A 0 10 0) (b : ∀ i j, A' 12 i j = A 12 i j) : v7 σ' v A' := by
  refine ⟨by rw [e _ _ (by decide), a]; exact h.1, fun s i k q1 q2 q3 q4 q5 => ?_⟩
  rw [e _ _ (by decide), b]
  exact h.2 s i k (a.symm.trans q1) q2 q3 q4 q5
theorem c_drawnOf (hR : zVr σ v A n m c) (hI : aInv A n m T) (hw : ¬ zm (aWish A n m) n = 0) : zOk (F_Village_drawnOf v (zm (aWish A n m) n) σ) (fun q => q.1 = nI (aSpk A n m) ∧ zVr q.2 v (aup A 0 9 0 (nI (aX A))) n m c ∧ q.2 = zst σ v 0 2 (nI (aX A))) := by
  have hn := hI.1.2.2.1
  obtain ⟨x, hx, hX⟩ := hI.2.1.2.2.2.1
  have hsh : ∀ i, i < n → A 1 i 4 = nI (aSh A i) ∧ 0 < aSh A i ∧ aSh A i < 10 := fun i hi => by
    obtain ⟨-, -, -, -, s, h1, h2, h3⟩ := hI.2.2.1 i hi
    unfold aSh
    rw [h3, nI_clamp (by omega)]
    exact ⟨rfl, by omega, by omega⟩
  obtain ⟨g1, g2, g3, g4⟩ := aSpk_in hn hsh hw
  have ex : aX A = (1103 * x + 12345) % 1000003 := by rw [aX, hX, nI_clamp (by omega)]
  have e : ((1103 : Int32) * (σ.1 v 0 2)) + (12345 : Int32) - (((1103 : Int32) * (σ.1 v 0 2)) + (12345 : Int32)) / (1000003 : Int32) * (1000003 : Int32) = nI (aX A) := by
    rw [hR.1.2.2.1, hX, show (1103 : Int32) = nI 1103 from rfl, show (12345 : Int32) = nI 12345 from rfl, show (1000003 : Int32) = nI 1000003 from rfl, pk_mul, nI_add, pk_rem (by omega) (by decide) (by decide), ex]
  have hR2 : zVr (zst σ v 0 2 (nI (aX A))) v (aup A 0 9 0 (nI (aX A))) n m c := by
    obtain ⟨r1, r2, r3, r4, r5, r6⟩ := hR
    refine ⟨?_, r2.cg (fun o i _ _ => by rw [zst_at, if_neg (by omega)]) (fun i j => by simp [aup]), r3.cg (fun o i _ _ => by rw [zst_at, if_neg (by omega)]) (fun f i j q => by rw [aup, if_neg (by omega)]), r4.cg (fun o i _ => by rw [zst_at, if_neg (by omega)]) (fun f i j q => by rw [aup, if_neg (by omega)]), r5.cg (fun o i _ => by rw [zst_at, if_neg (by omega)]) (fun f i j q _ => by rw [aup, if_neg (by omega)]), r6.cg (fun o i _ => by rw [zst_at, if_neg (by omega)]) (fun i j => by simp [aup])⟩
    obtain ⟨h1, h2, h3, h4, h5, h6, h7⟩ := r1
    refine ⟨?_, ?_, ?_, ?_, ?_, ?_, fun k hk => ?_⟩
    · rw [zst_at, if_neg (by omega), h1]; simp [aup]
    · rw [zst_at, if_neg (by omega), h2]; simp [aup]
    · rw [zst_at, if_pos ⟨rfl, rfl, rfl⟩]; simp [aup]
    · rw [zst_at, if_neg (by omega), h4]; simp [aup]
    · rw [zst_at, if_neg (by omega), h5]
    · rw [zst_at, if_neg (by omega), h6]
    · rw [zst_at, if_neg (by omega), h7 k hk, aup, if_neg (by omega)]
  have hI2 : aInv (aup A 0 9 0 (nI (aX A))) n m T → True := fun _ => trivial
  rw [F_Village_drawnOf]
  refine zOk.eq (c_sharesOf hR hI) ?_
  rw [zs_rest (aWish A n m) (aSh A) (fun h => A 1 h 4) n (fun k hk => (hsh k hk).1) n (Nat.le_refl n)]
  have g1' : 0 < zrest (aWish A n m) (aSh A) n 0 := g1
  have g2' : zrest (aWish A n m) (aSh A) n 0 ≤ 120 := g2
  rw [F_Village_draw, e, if_neg (nI_nle g1' (by omega)), if_pos (nI_ne0 g1' (by omega))]
  have x2 : (zst σ v 0 2 (nI (aX A))).1 v 0 2 = nI (aX A) := by rw [zst_at, if_pos ⟨rfl, rfl, rfl⟩]
  rw [x2, pk_rem (by rw [ex]; omega) g1' (by omega)]
  show zOk (L_Village_drawnOf v zK 0 (zm (aWish A n m) n) (nI (aX A % aSum A n m)) 0 (zst σ v 0 2 (nI (aX A)))) _
  have hm := Nat.mod_lt (aX A) g1
  have hI3 : aInv (aup A 0 9 0 (nI (aX A))) n m T := by
    obtain ⟨i1, i2, i3, i4, i5⟩ := hI
    refine ⟨by simpa [zSz, aup] using i1, ?_, fun h hh => by simpa [aHf, aup] using i3 h hh, fun w hw q h hh => by simpa [aup] using i4 w hw (by simpa [aup] using q) h hh, fun h w hh hw => by simpa [aPf, aup] using i5 h w hh hw⟩
    obtain ⟨j1, j2, j3, j4, j5⟩ := i2
    refine ⟨by simpa [aup] using j1, by simpa [aup] using j2, j3, ⟨aX A, by rw [ex]; omega, by simp [aup]⟩, by simpa [aup] using j5⟩
  rw [show (0 : Int32) = nI 0 from rfl, c_pick hR2 hI3 (s := aSh A) (fun i hi => ⟨by rw [← (hsh i hi).1]; simp [aup], by have := (hsh i hi).2.2; omega⟩) n 0 _ zK (Nat.zero_add n) hm (zK_lt (by omega)) (by omega)]
  exact ⟨_, rfl, rfl, hR2, rfl⟩
end CF

