/-! what the class's village does -/
theorem c_put43 {σ : zSt} {v h w : Nat} (hh : h < 12) (hw : w < 20) (t : Int32) : F_Entries_put v 43 (nI h) (nI w) t σ = some (zst (zst σ v 45 h (σ.1 v 45 h ||| ((1 : Int32) <<< (nI w &&& 31)))) v 47 (20 * h + w) t) := by
  rw [F_Entries_put]
  show ((F_Row_join v 44 (nI h) (nI w) σ).bind fun σ2 => (F_Waves_cell (nI h) (nI w) σ2).bind fun r4 => (F_Row_put v 46 r4 t σ2).bind fun σ6 => some σ6) = _
  rw [r_join44 hh, Option.bind_some, r_cell, Option.bind_some, r_put46 (by omega), Option.bind_some]
theorem c_put48 {σ : zSt} {v h w : Nat} (hh : h < 12) (hw : w < 20) (t : Int32) : F_Entries_put v 48 (nI h) (nI w) t σ = some (zst (zst σ v 50 h (σ.1 v 50 h ||| ((1 : Int32) <<< (nI w &&& 31)))) v 52 (20 * h + w) t) := by
  rw [F_Entries_put]
  show ((F_Row_join v 49 (nI h) (nI w) σ).bind fun σ2 => (F_Waves_cell (nI h) (nI w) σ2).bind fun r4 => (F_Row_put v 51 r4 t σ2).bind fun σ6 => some σ6) = _
  rw [r_join49 hh, Option.bind_some, r_cell, Option.bind_some, r_put51 (by omega), Option.bind_some]
theorem c_rem43 {σ : zSt} {v h w : Nat} (hh : h < 12) : F_Entries_remove v 43 (nI h) (nI w) σ = some (zst σ v 45 h (σ.1 v 45 h &&& (((1 : Int32) <<< (nI w &&& 31)) ^^^ (-1 : Int32)))) := by
  rw [F_Entries_remove]
  show ((F_Row_leave v 44 (nI h) (nI w) σ).bind fun σ2 => some σ2) = _
  rw [r_leave44 hh, Option.bind_some]
theorem c_rem48 {σ : zSt} {v h w : Nat} (hh : h < 12) : F_Entries_remove v 48 (nI h) (nI w) σ = some (zst σ v 50 h (σ.1 v 50 h &&& (((1 : Int32) <<< (nI w &&& 31)) ^^^ (-1 : Int32)))) := by
  rw [F_Entries_remove]
  show ((F_Row_leave v 49 (nI h) (nI w) σ).bind fun σ2 => some σ2) = _
  rw [r_leave49 hh, Option.bind_some]
section CM
variable {σ : zSt} {A : zAb} {n m T v : Nat} {c : Int32}
theorem R_has1 (hR : zVr σ v A n m c) (hZ : zSz A n m) {h w : Nat} (hh : h < n) (hw : w < m) (t g : Int32) : zVr (zst (zst (zst σ v 45 h (σ.1 v 45 h ||| ((1 : Int32) <<< (nI w &&& 31)))) v 47 (20 * h + w) t) v 54 (20 * h + w) g) v (aup (aup (aup A 7 h w 1) 8 h w t) 9 h w g) n m c := by
  obtain ⟨hn, hm, hn12, hm20⟩ := hZ
  obtain ⟨r1, r2, r3, r4, r5, r6⟩ := hR
  refine ⟨r1.cg (fun o i q => by rw [zst_at, if_neg (by omega), zst_at, if_neg (by omega), zst_at, if_neg (by omega)]) (fun k _ => by simp [aup]) (by simp [aup]),
    r2.cg (fun o i q q2 => by rw [zst_at, if_neg (by omega), zst_at, if_neg (by omega), zst_at, if_neg (by omega)]) (fun i j => by simp [aup]),
    r3.cg (fun o i q q2 => by rw [zst_at, if_neg (by omega), zst_at, if_neg (by omega), zst_at, if_neg (by omega)]) (fun f i j q => by rw [aup, if_neg (by omega), aup, if_neg (by omega), aup, if_neg (by omega)]), ?_, ?_,
    r6.cg (fun o i q => by rw [zst_at, if_neg (by omega), zst_at, if_neg (by omega), zst_at, if_neg (by omega)]) (fun i j => by simp [aup])⟩
  · intro k hk
    obtain ⟨h1, h2⟩ := r4 k hk
    constructor
    · rw [zst_at, if_neg (by omega), zst_at, if_neg (by omega), zst_at]
      by_cases y : k = h
      · subst y
        rw [if_pos ⟨rfl, rfl, rfl⟩, h1, zm_join (by omega) hw]
        refine zm_congr (fun i hi => ?_)
        by_cases z : i = w
        · subst z; simp [aup, hh]
        · simp [aup, hh, z]
      · rw [if_neg (by omega), h1]
        exact zm_congr (fun i hi => by simp [aup, y])
    · rw [zst_at, if_neg (by omega), zst_at, if_neg (by omega), zst_at, if_neg (by omega), h2]
      exact zm_congr (fun i hi => by simp [aup])
  · intro k j hk hj
    obtain ⟨h1, h2⟩ := r5 k j hk hj
    have ne : ¬ (k = h ∧ j = w) → ¬ 20 * k + j = 20 * h + w := by omega
    constructor
    · intro q
      by_cases y : k = h ∧ j = w
      · obtain ⟨rfl, rfl⟩ := y
        simp [zst_at, aup]
      · have := ne y
        have q : A 7 k j = 1 := by simpa [aup, y] using q
        have := h1 q
        simp [zst_at, aup, y, ne y, this]
    · intro q
      have q : A 10 k j = 1 := by simpa [aup] using q
      simp [zst_at, aup, h2 q]
theorem R_owe1 (hR : zVr σ v A n m c) (hZ : zSz A n m) {h w : Nat} (hh : h < n) (hw : w < m) (t : Int32) : zVr (zst (zst σ v 50 h (σ.1 v 50 h ||| ((1 : Int32) <<< (nI w &&& 31)))) v 52 (20 * h + w) t) v (aup (aup A 10 h w 1) 11 h w t) n m c := by
  obtain ⟨hn, hm, hn12, hm20⟩ := hZ
  obtain ⟨r1, r2, r3, r4, r5, r6⟩ := hR
  refine ⟨r1.cg (fun o i q => by rw [zst_at, if_neg (by omega), zst_at, if_neg (by omega)]) (fun k _ => by simp [aup]) (by simp [aup]),
    r2.cg (fun o i q q2 => by rw [zst_at, if_neg (by omega), zst_at, if_neg (by omega)]) (fun i j => by simp [aup]),
    r3.cg (fun o i q q2 => by rw [zst_at, if_neg (by omega), zst_at, if_neg (by omega)]) (fun f i j q => by rw [aup, if_neg (by omega), aup, if_neg (by omega)]), ?_, ?_,
    r6.cg (fun o i q => by rw [zst_at, if_neg (by omega), zst_at, if_neg (by omega)]) (fun i j => by simp [aup])⟩
  · intro k hk
    obtain ⟨h1, h2⟩ := r4 k hk
    constructor
    · rw [zst_at, if_neg (by omega), zst_at, if_neg (by omega), h1]
      exact zm_congr (fun i hi => by simp [aup])
    · rw [zst_at, if_neg (by omega), zst_at]
      by_cases y : k = h
      · subst y
        rw [if_pos ⟨rfl, rfl, rfl⟩, h2, zm_join (by omega) hw]
        refine zm_congr (fun i hi => ?_)
        by_cases z : i = w
        · subst z; simp [aup, hh]
        · simp [aup, hh, z]
      · rw [if_neg (by omega), h2]
        exact zm_congr (fun i hi => by simp [aup, y])
  · intro k j hk hj
    obtain ⟨h1, h2⟩ := r5 k j hk hj
    have ne : ¬ (k = h ∧ j = w) → ¬ 20 * k + j = 20 * h + w := by omega
    constructor
    · intro q
      have q : A 7 k j = 1 := by simpa [aup] using q
      have := h1 q
      simp [zst_at, aup, this]
    · intro q
      by_cases y : k = h ∧ j = w
      · obtain ⟨rfl, rfl⟩ := y
        simp [zst_at, aup]
      · have q : A 10 k j = 1 := by simpa [aup, y] using q
        simp [zst_at, aup, y, ne y, h2 q]
theorem R_has0 (hR : zVr σ v A n m c) (hZ : zSz A n m) {h w : Nat} (hh : h < n) (hw : w < m) : zVr (zst σ v 45 h (σ.1 v 45 h &&& (((1 : Int32) <<< (nI w &&& 31)) ^^^ (-1 : Int32)))) v (aup A 7 h w 0) n m c := by
  obtain ⟨hn, hm, hn12, hm20⟩ := hZ
  obtain ⟨r1, r2, r3, r4, r5, r6⟩ := hR
  refine ⟨r1.cg (fun o i q => by rw [zst_at, if_neg (by omega)]) (fun k _ => by simp [aup]) (by simp [aup]),
    r2.cg (fun o i q q2 => by rw [zst_at, if_neg (by omega)]) (fun i j => by simp [aup]),
    r3.cg (fun o i q q2 => by rw [zst_at, if_neg (by omega)]) (fun f i j q => by rw [aup, if_neg (by omega)]), ?_, ?_,
    r6.cg (fun o i q => by rw [zst_at, if_neg (by omega)]) (fun i j => by simp [aup])⟩
  · intro k hk
    obtain ⟨h1, h2⟩ := r4 k hk
    constructor
    · rw [zst_at]
      by_cases y : k = h
      · subst y
        rw [if_pos ⟨rfl, rfl, rfl⟩, h1, zm_leave (by omega) hw]
        refine zm_congr (fun i hi => ?_)
        by_cases z : i = w
        · subst z; simp [aup]
        · simp [aup, z]
      · rw [if_neg (by omega), h1]
        exact zm_congr (fun i hi => by simp [aup, y])
    · rw [zst_at, if_neg (by omega), h2]
      exact zm_congr (fun i hi => by simp [aup])
  · intro k j hk hj
    obtain ⟨h1, h2⟩ := r5 k j hk hj
    constructor
    · intro q
      by_cases y : k = h ∧ j = w
      · obtain ⟨rfl, rfl⟩ := y
        simp [aup] at q
      · have q : A 7 k j = 1 := by simpa [aup, y] using q
        simp [zst_at, aup, h1 q]
    · intro q
      have q : A 10 k j = 1 := by simpa [aup] using q
      simp [zst_at, aup, h2 q]
theorem R_owe0 (hR : zVr σ v A n m c) (hZ : zSz A n m) {h w : Nat} (hh : h < n) (hw : w < m) : zVr (zst σ v 50 h (σ.1 v 50 h &&& (((1 : Int32) <<< (nI w &&& 31)) ^^^ (-1 : Int32)))) v (aup A 10 h w 0) n m c := by
  obtain ⟨hn, hm, hn12, hm20⟩ := hZ
  obtain ⟨r1, r2, r3, r4, r5, r6⟩ := hR
  refine ⟨r1.cg (fun o i q => by rw [zst_at, if_neg (by omega)]) (fun k _ => by simp [aup]) (by simp [aup]),
    r2.cg (fun o i q q2 => by rw [zst_at, if_neg (by omega)]) (fun i j => by simp [aup]),
    r3.cg (fun o i q q2 => by rw [zst_at, if_neg (by omega)]) (fun f i j q => by rw [aup, if_neg (by omega)]), ?_, ?_,
    r6.cg (fun o i q => by rw [zst_at, if_neg (by omega)]) (fun i j => by simp [aup])⟩
  · intro k hk
    obtain ⟨h1, h2⟩ := r4 k hk
    constructor
    · rw [zst_at, if_neg (by omega), h1]
      exact zm_congr (fun i hi => by simp [aup])
    · rw [zst_at]
      by_cases y : k = h
      · subst y
        rw [if_pos ⟨rfl, rfl, rfl⟩, h2, zm_leave (by omega) hw]
        refine zm_congr (fun i hi => ?_)
        by_cases z : i = w
        · subst z; simp [aup]
        · simp [aup, z]
      · rw [if_neg (by omega), h2]
        exact zm_congr (fun i hi => by simp [aup, y])
  · intro k j hk hj
    obtain ⟨h1, h2⟩ := r5 k j hk hj
    constructor
    · intro q
      have q : A 7 k j = 1 := by simpa [aup] using q
      simp [zst_at, aup, h1 q]
    · intro q
      by_cases y : k = h ∧ j = w
      · obtain ⟨rfl, rfl⟩ := y
        simp [aup] at q
      · have q : A 10 k j = 1 := by simpa [aup, y] using q
        simp [zst_at, aup, h2 q]
theorem R_bet1 (hR : zVr σ v A n m c) (hZ : zSz A n m) {h w : Nat} (hh : h < n) (hw : w < m) : zVr (zst σ v 40 w (σ.1 v 40 w ||| ((1 : Int32) <<< (nI h &&& 31)))) v (aup A 4 h w 1) n m c := by
  obtain ⟨hn, hm, hn12, hm20⟩ := hZ
  obtain ⟨r1, r2, r3, r4, r5, r6⟩ := hR
  refine ⟨r1.cg (fun o i q => by rw [zst_at, if_neg (by omega)]) (fun k _ => by simp [aup]) (by simp [aup]),
    r2.cg (fun o i q q2 => by rw [zst_at, if_neg (by omega)]) (fun i j => by simp [aup]), ?_,
    r4.cg (fun o i q => by rw [zst_at, if_neg (by omega)]) (fun f i j q => by rw [aup, if_neg (by omega)]),
    r5.cg (fun o i q => by rw [zst_at, if_neg (by omega)]) (fun f i j q _ => by rw [aup, if_neg (by omega)]),
    r6.cg (fun o i q => by rw [zst_at, if_neg (by omega)]) (fun i j => by simp [aup])⟩
  intro k hk
  obtain ⟨h1, h2, h3, h4, h5, h6, h7, h8, h9⟩ := r3 k hk
  have x : ∀ o i, o ≠ 40 → (zst σ v 40 w (σ.1 v 40 w ||| ((1 : Int32) <<< (nI h &&& 31)))).1 v o i = σ.1 v o i := fun o i q => by rw [zst_at, if_neg (by omega)]
  have y : ∀ f i j, f ≠ 4 → aup A 4 h w 1 f i j = A f i j := fun f i j q => by rw [aup, if_neg (by omega)]
  simp only [y 2 _ _ (by decide), y 3 _ _ (by decide), y 6 _ _ (by decide)]
  rw [x 26 _ (by decide), x 28 _ (by decide), x 30 _ (by decide), x 32 _ (by decide), x 34 _ (by decide), x 36 _ (by decide), x 38 _ (by decide), x 42 _ (by decide)]
  refine ⟨h1, h2, h3, h4, h5, h6, h7, ?_, h9⟩
  rw [zst_at]
  by_cases z : k = w
  · subst z
    rw [if_pos ⟨rfl, rfl, rfl⟩, h8, zm_join (by omega) hh]
    refine zm_congr (fun i hi => ?_)
    by_cases u : i = h
    · subst u; simp [aup]
    · simp [aup, u]
  · rw [if_neg (by omega), h8]
    exact zm_congr (fun i hi => by simp [aup, z])
theorem R_c13 (hR : zVr σ v A n m c) {i : Nat} (hi : i ≠ 23) (x : Int32) : zVr σ v (aup A 13 i 0 x) n m c := by
  obtain ⟨r1, r2, r3, r4, r5, r6⟩ := hR
  exact ⟨r1.cg (fun _ _ _ => rfl) (fun k _ => by simp [aup]) (by rw [aup, if_neg (by omega)]), r2.cg (fun _ _ _ _ => rfl) (fun i j => by simp [aup]), r3.cg (fun _ _ _ _ => rfl) (fun f i j q => by rw [aup, if_neg (by omega)]), r4.cg (fun _ _ _ => rfl) (fun f i j q => by rw [aup, if_neg (by omega)]), r5.cg (fun _ _ _ => rfl) (fun f i j q _ => by rw [aup, if_neg (by omega)]), r6.cg (fun _ _ _ => rfl) (fun i j => by simp [aup])⟩
/-- these cells are as they were -/
def zJk (v : Nat) (σ σ' : zSt) : Prop := zfV v σ σ' ∧ ∀ o i, o = 59 ∨ o = 61 → σ'.1 v o i = σ.1 v o i
theorem zJk.rf : zJk v σ σ := ⟨zfV.rf v σ, fun _ _ _ => rfl⟩
theorem zJk.tr {s2 s3 : zSt} (h : zJk v σ s2) (h2 : zJk v s2 s3) : zJk v σ s3 := ⟨h.1.tr h2.1, fun o i q => (h2.2 o i q).trans (h.2 o i q)⟩
theorem zJk.st (σ : zSt) (v : Nat) {o : Nat} (i : Nat) (x : Int32) (h : o ≠ 59 ∧ o ≠ 61) : zJk v σ (zst σ v o i x) := ⟨zfV.st v σ o i x, fun o' j q => by rw [zst_at, if_neg (by omega)]⟩
theorem c_learn (hR : zVr σ v A n m c) (hI : aInv A n m T) {h w : Nat} (hh : h < n) (hw : w < m) (k2 : ¬ A 2 w 4 = -1) : zOk (F_Village_learnCorrection v (nI h) (nI w) σ) (fun σ' => zVr σ' v (aLearn A n h w) n m c ∧ zJk v σ σ') := by
  obtain ⟨hZ, -⟩ := id hI
  obtain ⟨-, -, hn12, hm20⟩ := id hZ
  rw [F_Village_learnCorrection]
  refine zOk.eq (c_rem43 (by omega)) ?_
  have R1 := R_has0 hR hZ hh hw
  have J1 := zJk.st σ v (o := 45) h (σ.1 v 45 h &&& (((1 : Int32) <<< (nI w &&& 31)) ^^^ (-1 : Int32))) (by decide)
  generalize zst σ v 45 h (σ.1 v 45 h &&& (((1 : Int32) <<< (nI w &&& 31)) ^^^ (-1 : Int32))) = s1 at R1 J1 ⊢
  refine zOk.eq (r_join39 (by omega) _) ?_
  have hZ1 : zSz (aup A 7 h w 0) n m := by simpa [zSz, aup] using hZ
  have R2 := R_bet1 R1 hZ1 hh hw
  have J2 := J1.tr (zJk.st s1 v (o := 40) w (s1.1 v 40 w ||| ((1 : Int32) <<< (nI h &&& 31))) (by decide))
  generalize zst s1 v 40 w (s1.1 v 40 w ||| ((1 : Int32) <<< (nI h &&& 31))) = s2 at R2 J2 ⊢
  have sw : aup (aup A 7 h w 0) 4 h w 1 = aup (aup A 4 h w 1) 7 h w 0 := by
    funext f i j
    simp only [aup]
    repeat' split
    all_goals first | rfl | omega
  rw [sw] at R2
  have I2 : aInv (aup (aup A 4 h w 1) 7 h w 0) n m T := by
    obtain ⟨p1, p2, p3, p4, p5, p6, p7, p8, p9, p10, p11, p12⟩ := hI.2.2.2.2 h w hh hw
    refine aInv_1 (h := h) (w := w) hI (fun f i j q => by rw [aup, if_neg (by omega), aup, if_neg (by omega)]) (fun f i j a b q => by rw [aup, if_neg (by omega), aup, if_neg (by omega)]) (fun _ _ => ?_) (fun _ _ q => absurd q k2)
    unfold aPf
    have e : ∀ f, f ≠ 4 → f ≠ 7 → aup (aup A 4 h w 1) 7 h w 0 f h w = A f h w := fun f a b => by rw [aup, if_neg (by omega), aup, if_neg (by omega)]
    have e4 : aup (aup A 4 h w 1) 7 h w 0 4 h w = 1 := by simp [aup]
    have e7 : aup (aup A 4 h w 1) 7 h w 0 7 h w = 0 := by simp [aup]
    rw [e 3 (by decide) (by decide), e4, e 5 (by decide) (by decide), e 6 (by decide) (by decide), e7, e 8 (by decide) (by decide), e 9 (by decide) (by decide), e 10 (by decide) (by decide), e 11 (by decide) (by decide)]
    exact ⟨p1, Or.inr rfl, Or.inl rfl, p4, p5, p6, p7, p8, p9, p10, fun _ => rfl, fun _ => rfl⟩
  refine zOk.eq (c_owedBy R2 I2 hh hw) ?_
  unfold aLearn
  refine zOk.ite (fun q => ?_) (fun q => ?_)
  · rw [if_pos q]
    exact ⟨_, rfl, R2, J2⟩
  · rw [if_neg q]
    have e8 : s2.1 v 0 1 = A 0 8 0 := R2.1.2.1.trans (by simp [aup])
    rw [e8]
    refine zOk.eq (c_put48 (by omega) (by omega) _) ?_
    exact ⟨_, rfl, R_owe1 R2 I2.1 hh hw _, (J2.tr (zJk.st s2 v (o := 50) _ _ (by decide))).tr (zJk.st _ v (o := 52) _ _ (by decide))⟩
theorem c_get (hR : zVr σ v A n m c) (hI : aInv A n m T) {s h w g : Nat} (hs : s < n) (hh : h < n) (hne : h ≠ s) (hw : w < m) (hg : g ≤ 12) (k3 : A 3 h w = 0) (k4 : A 4 h w = 0) : zOk (F_Village_getNews v (nI h) (nI w) (nI s) (nI g) σ) (fun σ' => zVr σ' v (aGet A s w h (nI g)) n m c ∧ zJk v σ σ') := by
  obtain ⟨hZ, -⟩ := id hI
  obtain ⟨-, -, hn12, hm20⟩ := id hZ
  obtain ⟨k5, k6⟩ := (hI.2.2.2.2 h w hh hw).2.2.2.2.2.2.2.2.2.1 k3
  rw [F_Village_getNews]
  refine zOk.eq (r_join37 (by omega) _) (zOk.eq (r_get41 (by omega)) (zOk.eq (r_put41 (by omega) _) (zOk.eq (r_cell _) (zOk.eq (r_put55 (by omega) _) (zOk.eq (r_cell _) (zOk.eq (r_join57 (by omega) _) (zOk.eq (r_cell _) (zOk.eq (r_join57 (by omega) _) ?_))))))))
  have ne20 : ¬ 20 * s + w = 20 * h + w := by omega
  have R5 : ∀ s5 : zSt, s5 = zst (zst (zst (zst (zst σ v 38 w (σ.1 v 38 w ||| ((1 : Int32) <<< (nI h &&& 31)))) v 42 w (if σ.1 v 42 w < nI g then nI g else σ.1 v 42 w)) v 56 (20 * h + w) (nI s)) v 58 (20 * h + w) (σ.1 v 58 (20 * h + w) ||| ((1 : Int32) <<< (nI s &&& 31)))) v 58 (20 * s + w) (σ.1 v 58 (20 * s + w) ||| ((1 : Int32) <<< (nI h &&& 31))) →
      zVr s5 v (aup (aup (aup A 3 h w 1) 5 h w (nI s)) 6 h w (nI g)) n m c ∧ zJk v σ s5 := by
    rintro s5 rfl
    obtain ⟨r1, r2, r3, r4, r5, r6⟩ := hR
    refine ⟨⟨r1.cg (fun o i q => by rw [zst_at, if_neg (by omega), zst_at, if_neg (by omega), zst_at, if_neg (by omega), zst_at, if_neg (by omega), zst_at, if_neg (by omega)]) (fun k _ => by simp [aup]) (by simp [aup]),
      r2.cg (fun o i q q2 => by rw [zst_at, if_neg (by omega), zst_at, if_neg (by omega), zst_at, if_neg (by omega), zst_at, if_neg (by omega), zst_at, if_neg (by omega)]) (fun i j => by simp [aup]), ?_,
      r4.cg (fun o i q => by rw [zst_at, if_neg (by omega), zst_at, if_neg (by omega), zst_at, if_neg (by omega), zst_at, if_neg (by omega), zst_at, if_neg (by omega)]) (fun f i j q => by rw [aup, if_neg (by omega), aup, if_neg (by omega), aup, if_neg (by omega)]),
      r5.cg (fun o i q => by rw [zst_at, if_neg (by omega), zst_at, if_neg (by omega), zst_at, if_neg (by omega), zst_at, if_neg (by omega), zst_at, if_neg (by omega)]) (fun f i j q _ => by rw [aup, if_neg (by omega), aup, if_neg (by omega), aup, if_neg (by omega)]), ?_⟩,
      ((((zJk.st _ v (o := 38) _ _ (by decide)).tr (zJk.st _ v (o := 42) _ _ (by decide))).tr (zJk.st _ v (o := 56) _ _ (by decide))).tr (zJk.st _ v (o := 58) _ _ (by decide))).tr (zJk.st _ v (o := 58) _ _ (by decide))⟩
    · intro k hk
      obtain ⟨h1, h2, h3, h4, h5, h6, h7, h8, h9⟩ := r3 k hk
      have y : ∀ f i j, f ≠ 3 → f ≠ 5 → f ≠ 6 → aup (aup (aup A 3 h w 1) 5 h w (nI s)) 6 h w (nI g) f i j = A f i j := fun f i j a b c => by rw [aup, if_neg (by omega), aup, if_neg (by omega), aup, if_neg (by omega)]
      have x : ∀ o i, o ≠ 38 → o ≠ 42 → o ≠ 56 → o ≠ 58 → (zst (zst (zst (zst (zst σ v 38 w (σ.1 v 38 w ||| ((1 : Int32) <<< (nI h &&& 31)))) v 42 w (if σ.1 v 42 w < nI g then nI g else σ.1 v 42 w)) v 56 (20 * h + w) (nI s)) v 58 (20 * h + w) (σ.1 v 58 (20 * h + w) ||| ((1 : Int32) <<< (nI s &&& 31)))) v 58 (20 * s + w) (σ.1 v 58 (20 * s + w) ||| ((1 : Int32) <<< (nI h &&& 31)))).1 v o i = σ.1 v o i := fun o i a b c d => by
        rw [zst_at, if_neg (by omega), zst_at, if_neg (by omega), zst_at, if_neg (by omega), zst_at, if_neg (by omega), zst_at, if_neg (by omega)]
      simp only [y 2 _ _ (by decide) (by decide) (by decide), y 4 _ _ (by decide) (by decide) (by decide)]
      rw [x 26 _ (by decide) (by decide) (by decide) (by decide), x 28 _ (by decide) (by decide) (by decide) (by decide), x 30 _ (by decide) (by decide) (by decide) (by decide), x 32 _ (by decide) (by decide) (by decide) (by decide), x 34 _ (by decide) (by decide) (by decide) (by decide), x 36 _ (by decide) (by decide) (by decide) (by decide), x 40 _ (by decide) (by decide) (by decide) (by decide)]
      refine ⟨h1, h2, h3, h4, h5, h6, ?_, h8, ?_⟩
      · rw [zst_at, if_neg (by omega), zst_at, if_neg (by omega), zst_at, if_neg (by omega), zst_at, if_neg (by omega), zst_at]
        by_cases z : k = w
        · subst z
          rw [if_pos ⟨rfl, rfl, rfl⟩, h7, zm_join (by omega) hh]
          refine zm_congr (fun i hi => ?_)
          by_cases u : i = h
          · subst u; simp [aup]
          · simp [aup, u]
        · rw [if_neg (by omega), h7]
          exact zm_congr (fun i hi => by simp [aup, z])
      · rw [zst_at, if_neg (by omega), zst_at, if_neg (by omega), zst_at, if_neg (by omega), zst_at]
        by_cases z : k = w
        · subst z
          rw [if_pos ⟨rfl, rfl, rfl⟩, h9]
          refine (zmx_up (f := fun h => A 6 h k) (h := h) k6 (by simp [aup]) (by rw [nI_toInt (by omega)]; omega) (fun i hi => by simp [aup, hi]) hh).symm
        · rw [if_neg (by omega), zst_at, if_neg (by omega), h9]
          exact zmx_cong (fun i hi => by simp [aup, z])
    · intro k j hk hj
      obtain ⟨h1, h2⟩ := r6 k j hk hj
      have ne : ¬ (k = h ∧ j = w) → ¬ 20 * k + j = 20 * h + w := by omega
      have ne2 : ¬ (k = s ∧ j = w) → ¬ 20 * k + j = 20 * s + w := by omega
      constructor
      · rw [zst_at, if_neg (by omega), zst_at, if_neg (by omega), zst_at]
        by_cases z : k = h ∧ j = w
        · obtain ⟨rfl, rfl⟩ := z
          rw [if_pos ⟨rfl, rfl, rfl⟩, if_pos hh]; simp [aup]
        · rw [if_neg (fun q => ne z q.2.2), zst_at, if_neg (by omega), zst_at, if_neg (by omega), h1]
          split
          · rw [aup, if_neg (by omega), aup, if_neg (fun q => z q.2), aup, if_neg (by omega)]
          · rfl
      · have a5 : ∀ i, i ≠ h → aup (aup (aup A 3 h w 1) 5 h w (nI s)) 6 h w (nI g) 5 i w = A 5 i w := fun i hi => by simp [aup, hi]
        have a5h : aup (aup (aup A 3 h w 1) 5 h w (nI s)) 6 h w (nI g) 5 h w = nI s := by simp [aup]
        have nm : ∀ i, i < 32 → ¬ (-1 : Int32) = nI i := fun i hi z => oI_ne (e := i) (by omega) z.symm
        have inj : ∀ a b, a < 32 → b < 32 → (nI a = nI b ↔ a = b) := fun a b x y => nI_eq (by omega) (by omega)
        rw [zst_at]
        by_cases zs : k = s ∧ j = w
        · obtain ⟨rfl, rfl⟩ := zs
          rw [if_pos ⟨rfl, rfl, rfl⟩, h2, zm_join (by omega) hh]
          refine zm_congr (fun i hi => ?_)
          unfold aLk
          rw [a5 k (fun z => hne z.symm)]
          by_cases u : i = h
          · subst u; rw [a5h]; simp [hs]
          · rw [a5 i u]; simp [u]
        · rw [if_neg (fun q => ne2 zs q.2.2), zst_at]
          by_cases z : k = h ∧ j = w
          · obtain ⟨rfl, rfl⟩ := z
            rw [if_pos ⟨rfl, rfl, rfl⟩, h2, zm_join (by omega) hs]
            refine zm_congr (fun i hi => ?_)
            unfold aLk
            rw [a5h, k5]
            by_cases u : i = k
            · subst u
              rw [a5h, k5]
              have e1 := inj s i (by omega) (by omega)
              simp [hh, nm i (by omega), e1, Ne.symm hne, hne]
            · rw [a5 i u]
              have e1 := inj s i (by omega) (by omega)
              have e2 : (s = i) = (i = s) := propext ⟨Eq.symm, Eq.symm⟩
              simp [hh, nm i (by omega), e1, e2]
              exact Bool.or_comm _ _
          · rw [if_neg (fun q => ne z q.2.2), zst_at, if_neg (by omega), zst_at, if_neg (by omega), zst_at, if_neg (by omega), h2]
            refine zm_congr (fun i hi => ?_)
            unfold aLk
            by_cases jw : j = w
            · subst jw
              have kh : k ≠ h := fun q => z ⟨q, rfl⟩
              have ks : k ≠ s := fun q => zs ⟨q, rfl⟩
              rw [a5 k kh]
              by_cases u : i = h
              · subst u
                rw [a5h, k5]
                have e1 := inj s k (by omega) (by omega)
                simp [nm k (by omega), e1, Ne.symm ks]
              · rw [a5 i u]
            · simp [aup, jw]
  have q55 := (R5 _ rfl)
  have e41 : (zst σ v 38 w (σ.1 v 38 w ||| ((1 : Int32) <<< (nI h &&& 31)))).1 v 42 w = σ.1 v 42 w := by rw [zst_at, if_neg (by omega)]
  have e57 : ∀ x, (zst (zst (zst σ v 38 w (σ.1 v 38 w ||| ((1 : Int32) <<< (nI h &&& 31)))) v 42 w x) v 56 (20 * h + w) (nI s)).1 v 58 (20 * h + w) = σ.1 v 58 (20 * h + w) := fun x => by rw [zst_at, if_neg (by omega), zst_at, if_neg (by omega), zst_at, if_neg (by omega)]
  have e58 : ∀ x y, (zst (zst (zst (zst σ v 38 w (σ.1 v 38 w ||| ((1 : Int32) <<< (nI h &&& 31)))) v 42 w x) v 56 (20 * h + w) (nI s)) v 58 (20 * h + w) y).1 v 58 (20 * s + w) = σ.1 v 58 (20 * s + w) := fun x y => by rw [zst_at, if_neg (by omega), zst_at, if_neg (by omega), zst_at, if_neg (by omega), zst_at, if_neg (by omega)]
  rw [e41, e57, e58]
  obtain ⟨R, J⟩ := q55
  generalize zst (zst (zst (zst (zst σ v 38 w (σ.1 v 38 w ||| ((1 : Int32) <<< (nI h &&& 31)))) v 42 w (if σ.1 v 42 w < nI g then nI g else σ.1 v 42 w)) v 56 (20 * h + w) (nI s)) v 58 (20 * h + w) (σ.1 v 58 (20 * h + w) ||| ((1 : Int32) <<< (nI s &&& 31)))) v 58 (20 * s + w) (σ.1 v 58 (20 * s + w) ||| ((1 : Int32) <<< (nI h &&& 31))) = s5 at R J ⊢
  have e4 : F_Row_get v 1 (4 : Int32) s5 = some (A 0 4 0) := by
    rw [show (4 : Int32) = nI 4 from rfl, r_get1 (by decide), R.1.2.2.2.2.2.2 4 (by decide)]; simp [aup]
  refine zOk.eq e4 ?_
  unfold aGet
  refine zOk.ite (fun q => ?_) (fun q => ?_)
  · rw [if_pos q]
    exact ⟨_, rfl, R, J⟩
  · rw [if_neg q]
    have e8 : s5.1 v 0 1 = A 0 8 0 := R.1.2.1.trans (by simp [aup])
    rw [e8]
    refine zOk.eq (c_put43 (by omega) (by omega) _) (zOk.eq (r_cell _) (zOk.eq (r_put53 (by omega) _) ?_))
    have hZ1 : zSz (aup (aup (aup A 3 h w 1) 5 h w (nI s)) 6 h w (nI g)) n m := by simpa [zSz, aup] using hZ
    exact ⟨_, rfl, R_has1 R hZ1 hh hw _ _, ((J.tr (zJk.st s5 v (o := 45) _ _ (by decide))).tr (zJk.st _ v (o := 47) _ _ (by decide))).tr (zJk.st _ v (o := 54) _ _ (by decide))⟩
end CM

