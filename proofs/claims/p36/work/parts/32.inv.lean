/-! what holds stays true -/
section IV
variable {A B : zAb} {n m T : Nat}
theorem aPf_cg {h w : Nat} (e : ∀ f, 3 ≤ f → f ≤ 11 → B f h w = A f h w) (p : aPf A n T h w) : aPf B n T h w := by
  unfold aPf at *
  rw [e 3 (by decide) (by decide), e 4 (by decide) (by decide), e 5 (by decide) (by decide), e 6 (by decide) (by decide), e 7 (by decide) (by decide), e 8 (by decide) (by decide), e 9 (by decide) (by decide), e 10 (by decide) (by decide), e 11 (by decide) (by decide)]
  exact p
theorem aSc_cg (e : ∀ k, k < 10 → B 0 k 0 = A 0 k 0) (p : aSc A T) : aSc B T := by
  unfold aSc at *
  rw [e 0 (by decide), e 1 (by decide), e 2 (by decide), e 3 (by decide), e 4 (by decide), e 5 (by decide), e 8 (by decide), e 9 (by decide)]
  exact p
theorem aHf_cg {h : Nat} (e : ∀ k, k < 5 → B 1 h k = A 1 h k) (p : aHf A h) : aHf B h := by
  unfold aHf at *
  rw [e 0 (by decide), e 1 (by decide), e 2 (by decide), e 3 (by decide), e 4 (by decide)]
  exact p
theorem zSz_cg (e : ∀ k, k < 10 → B 0 k 0 = A 0 k 0) (p : zSz A n m) : zSz B n m := ⟨(e 6 (by decide)).trans p.1, (e 7 (by decide)).trans p.2.1, p.2.2⟩
theorem aInv_cg (hI : aInv A n m T) (e0 : ∀ k, k < 10 → B 0 k 0 = A 0 k 0) (e1 : ∀ h k, h < n → k < 5 → B 1 h k = A 1 h k) (e2 : ∀ w, w < m → B 2 w 4 = A 2 w 4) (e3 : ∀ f h w, 3 ≤ f → f ≤ 11 → B f h w = A f h w) : aInv B n m T :=
  ⟨zSz_cg e0 hI.1, aSc_cg e0 hI.2.1, fun h hh => aHf_cg (fun k hk => e1 h k hh hk) (hI.2.2.1 h hh), fun w hw q h hh => by rw [e3 4 h w (by decide) (by decide)]; exact hI.2.2.2.1 w hw (by rw [← e2 w hw]; exact q) h hh, fun h w hh hw => aPf_cg (fun f a b => e3 f h w a b) (hI.2.2.2.2 h w hh hw)⟩
theorem aInv_x (hI : aInv A n m T) {x : Nat} (hx : x < 1000003) : aInv (aup A 0 9 0 (nI x)) n m T := by
  obtain ⟨i1, i2, i3, i4, i5⟩ := hI
  refine ⟨by simpa [zSz, aup] using i1, ?_, fun h hh => by simpa [aHf, aup] using i3 h hh, fun w hw q h hh => by simpa [aup] using i4 w hw (by simpa [aup] using q) h hh, fun h w hh hw => by simpa [aPf, aup] using i5 h w hh hw⟩
  obtain ⟨j1, j2, j3, j4, j5⟩ := i2
  exact ⟨by simpa [aup] using j1, by simpa [aup] using j2, j3, ⟨x, hx, by simp [aup]⟩, by simpa [aup] using j5⟩
theorem aBat_n (hI : aInv A n m T) {h : Nat} (hh : h < n) : ∃ b, b ≤ 999 ∧ aBat A h = nI b := by
  obtain ⟨-, -, -, ⟨b, hb, eb⟩, -⟩ := hI.2.2.1 h hh
  obtain ⟨-, -, -, -, -, -, ⟨q, hq, eq⟩, -⟩ := hI.2.1
  unfold aBat
  rw [eb, eq, nI_add]
  by_cases c : nI (b + q) < 999
  · rw [if_pos c]
    have : b + q < 999 := (nI_ltI (b := 999) (by omega) (by decide)).mp c
    exact ⟨b + q, by omega, rfl⟩
  · rw [if_neg c]
    exact ⟨999, Nat.le_refl _, rfl⟩
theorem aInv_begin (hI : aInv A n m T) : aInv (aBegin A n) n m T := by
  unfold aBegin
  split
  · refine ⟨zSz_cg (fun k _ => by simp [aDay]) hI.1, aSc_cg (fun k _ => by simp [aDay]) hI.2.1, fun h hh => ?_, fun w hw q h hh => by simpa [aDay] using hI.2.2.2.1 w hw (by simpa [aDay] using q) h hh, fun h w hh hw => aPf_cg (fun f a b => by rw [aDay, if_neg (by omega), if_neg (by omega)]) (hI.2.2.2.2 h w hh hw)⟩
    obtain ⟨g0, g1, g2, g3, g4⟩ := hI.2.2.1 h hh
    have e : aDay A n 1 h 3 = aBat A h := by rw [aDay, if_pos ⟨rfl, hh, rfl⟩]
    refine ⟨by simpa [aDay] using g0, by simpa [aDay] using g1, by simpa [aDay] using g2, ?_, by simpa [aDay] using g4⟩
    rw [e]
    exact aBat_n hI hh
  · exact hI
theorem aDue_cg (hd : aDue A n m) (e : ∀ f h w, f = 4 ∨ f = 5 ∨ f = 10 → B f h w = A f h w) : aDue B n m := fun h w hh hw q => by
  rw [aOws_cg (B := A) (fun i _ => e 4 i w (by decide)) (fun i _ => e 5 i w (by decide))]
  exact hd h w hh hw (by rw [← e 10 h w (by decide)]; exact q)
theorem aPaid_id (hd : aDue A n m) : aPaid A n m = A := by
  funext f i j
  unfold aPaid
  split
  · rename_i q
    obtain ⟨rfl, q1, q2, q3, q4⟩ := q
    exact absurd q4 (hd i j q1 q2 q3)
  · rfl
theorem aPaid_due : aDue (aPaid A n m) n m := fun h w hh hw q => by
  rw [aOws_cg (B := A) (fun i _ => by simp [aPaid]) (fun i _ => by simp [aPaid])]
  intro z
  have : aPaid A n m 10 h w = 0 ∨ ¬ A 10 h w = 1 := by
    by_cases y : A 10 h w = 1
    · exact Or.inl (by rw [aPaid, if_pos ⟨rfl, hh, hw, y, z⟩])
    · exact Or.inr y
  rcases this with y | y
  · rw [y] at q; exact absurd q (by decide)
  · rw [aPaid, if_neg (fun x => y x.2.2.2.1)] at q; exact y q
theorem aInv_paid (hI : aInv A n m T) : aInv (aPaid A n m) n m T := by
  refine ⟨zSz_cg (fun k _ => by simp [aPaid]) hI.1, aSc_cg (fun k _ => by simp [aPaid]) hI.2.1, fun h hh => aHf_cg (fun k _ => by simp [aPaid]) (hI.2.2.1 h hh), fun w hw q h hh => by simpa [aPaid] using hI.2.2.2.1 w hw (by simpa [aPaid] using q) h hh, fun h w hh hw => ?_⟩
  obtain ⟨p1, p2, p3, p4, p5, p6, p7, p8, p9, p10, p11, p12⟩ := hI.2.2.2.2 h w hh hw
  have e : ∀ f, f ≠ 10 → aPaid A n m f h w = A f h w := fun f hf => by rw [aPaid, if_neg (fun z => hf z.1)]
  have e10 : aPaid A n m 10 h w = 0 ∨ aPaid A n m 10 h w = A 10 h w := by
    unfold aPaid
    split
    · exact Or.inl rfl
    · exact Or.inr rfl
  unfold aPf
  rw [e 3 (by decide), e 4 (by decide), e 5 (by decide), e 6 (by decide), e 7 (by decide), e 8 (by decide), e 9 (by decide), e 11 (by decide)]
  refine ⟨p1, p2, p3, ?_, p5, p6, p7, p8, p9, p10, p11, ?_⟩
  · rcases e10 with z | z
    · exact Or.inl z
    · rw [z]; exact p4
  · intro q
    rcases e10 with z | z
    · rw [z] at q; exact absurd q (by decide)
    · rw [z] at q; exact p12 q
theorem aInv_tick (hI : aInv A n m T) (hT : T + 1 < 2 ^ 28) : aInv (aup A 0 8 0 (nI (T + 1))) n m (T + 1) := by
  obtain ⟨i1, ⟨j1, j2, j3, j4⟩, i3, i4, i5⟩ := hI
  refine ⟨by simpa [zSz, aup] using i1, ⟨by simpa [aup] using j1, by simp [aup], hT, by simpa [aup] using j4⟩, fun h hh => by simpa [aHf, aup] using i3 h hh, fun w hw q h hh => by simpa [aup] using i4 w hw (by simpa [aup] using q) h hh, fun h w hh hw => ?_⟩
  have : aPf (aup A 0 8 0 (nI (T + 1))) n T h w := aPf_cg (fun f a b => by rw [aup, if_neg (by omega)]) (i5 h w hh hw)
  obtain ⟨p1, p2, p3, p4, p5, p6, ⟨t, ht, et⟩, p8, ⟨u, hu, eu⟩, p10, p11, p12⟩ := this
  exact ⟨p1, p2, p3, p4, p5, p6, ⟨t, by omega, et⟩, p8, ⟨u, by omega, eu⟩, p10, p11, p12⟩
theorem aInv_spend (hI : aInv A n m T) {s : Nat} (hs : s < n) (hb : ¬ A 1 s 3 < A 0 0 0) (hd : Nat → Bool) (h0 : hd s = false) (h1 : ∀ i, i < n → hd i = true → ¬ A 1 i 3 < A 0 1 0) : aInv (aSd (aSp A s) hd n) n m T := by
  have o0 : ∀ k, k < 10 → aSd (aSp A s) hd n 0 k 0 = A 0 k 0 := fun k hk => by
    rw [aSd, if_neg (by omega), if_neg (by omega)]
    have : ¬ k = 10 := by omega
    simp [aSp, aup, this]
  have oP : ∀ f h w, 2 ≤ f → f ≤ 11 → aSd (aSp A s) hd n f h w = A f h w := fun f h w a b => by
    rw [aSd, if_neg (by omega), if_neg (by omega)]
    unfold aSp
    rw [aup, if_neg (by omega), aup, if_neg (by omega), aup, if_neg (by omega), aup, if_neg (by omega), aup, if_neg (by omega)]
  refine ⟨zSz_cg o0 hI.1, aSc_cg o0 hI.2.1, fun h hh => ?_, fun w hw q h hh => by rw [oP 4 h w (by decide) (by decide)]; exact hI.2.2.2.1 w hw (by rw [← oP 2 w 4 (by decide) (by decide)]; exact q) h hh, fun h w hh hw => aPf_cg (fun f a b => oP f h w (by omega) b) (hI.2.2.2.2 h w hh hw)⟩
  obtain ⟨g0, g1, g2, ⟨b, hb1, eb⟩, g4⟩ := hI.2.2.1 h hh
  have ok : ∀ k, k ≠ 3 → k < 5 → aSd (aSp A s) hd n 1 h k = A 1 h k := fun k a b => by
    rw [aSd, if_neg (by omega), if_neg (by omega)]
    unfold aSp
    rw [aup, if_neg (by omega), aup, if_neg (by omega), aup, if_neg (by omega), aup, if_neg (by omega), aup, if_neg (by omega)]
  unfold aHf
  rw [ok 0 (by decide) (by decide), ok 1 (by decide) (by decide), ok 2 (by decide) (by decide), ok 4 (by decide) (by decide)]
  refine ⟨g0, g1, g2, ?_, g4⟩
  obtain ⟨-, -, -, -, ⟨x0, hx0, e0⟩, ⟨x1, hx1, e1⟩, -⟩ := hI.2.1
  by_cases q : hd h = true
  · have hne : ¬ h = s := fun z => by rw [z, h0] at q; cases q
    have v : aSd (aSp A s) hd n 1 h 3 = A 1 h 3 - A 0 1 0 := by
      rw [aSd, if_pos ⟨rfl, hh, rfl, q⟩]
      simp [aSp, aup, hne]
    have := h1 h hh q
    rw [eb, e1, nI_ltI (by omega) (by omega)] at this
    rw [v, eb, e1, pk_sub (by omega)]
    exact ⟨b - x1, by omega, rfl⟩
  · have v : aSd (aSp A s) hd n 1 h 3 = aSp A s 1 h 3 := by rw [aSd, if_neg (fun z => q z.2.2.2), if_neg (by omega)]
    rw [v]
    by_cases y : h = s
    · subst y
      rw [eb, e0, nI_ltI (by omega) (by omega)] at hb
      have : aSp A h 1 h 3 = A 1 h 3 - A 0 0 0 := by simp [aSp, aup]
      rw [this, eb, e0, pk_sub (by omega)]
      exact ⟨b - x0, by omega, rfl⟩
    · have : aSp A s 1 h 3 = A 1 h 3 := by simp [aSp, aup, y]
      rw [this]
      exact ⟨b, hb1, eb⟩
theorem aInv_c13 (hI : aInv A n m T) {i : Nat} {x : Int32} : aInv (aup A 13 i 0 x) n m T :=
  aInv_cg hI (fun k _ => by simp [aup]) (fun h k _ _ => by simp [aup]) (fun w _ => by simp [aup]) (fun f h w a b => by rw [aup, if_neg (by omega)])
theorem aInv_note (hI : aInv A n m T) {s w : Nat} {c : Bool} {hm tm : Int32} : aInv (aNote A s c w hm tm) n m T :=
  aInv_cg hI (fun k hk => by rw [aNote, if_neg (by omega), if_neg (by omega)]) (fun h k _ _ => by rw [aNote, if_neg (by omega), if_neg (by omega)]) (fun w _ => by rw [aNote, if_neg (by omega), if_neg (by omega)]) (fun f h w a b => by rw [aNote, if_neg (by omega), if_neg (by omega)])
/-- one pair is written, the others stay -/
theorem aInv_1 (hI : aInv A n m T) {h w : Nat} (e0 : ∀ f i j, f < 3 → B f i j = A f i j) (e3 : ∀ f i j, 3 ≤ f → f ≤ 11 → ¬ (i = h ∧ j = w) → B f i j = A f i j) (hp : h < n → w < m → aPf B n T h w) (h4 : h < n → w < m → A 2 w 4 = -1 → B 4 h w = 0) : aInv B n m T := by
  refine ⟨zSz_cg (fun k _ => e0 0 k 0 (by decide)) hI.1, aSc_cg (fun k _ => e0 0 k 0 (by decide)) hI.2.1, fun i hi => aHf_cg (fun k _ => e0 1 i k (by decide)) (hI.2.2.1 i hi), fun j hj q i hi => ?_, fun i j hi hj => ?_⟩
  · rw [e0 2 j 4 (by decide)] at q
    by_cases y : i = h ∧ j = w
    · obtain ⟨rfl, rfl⟩ := y
      exact h4 hi hj q
    · rw [e3 4 i j (by decide) (by decide) y]
      exact hI.2.2.2.1 j hj q i hi
  · by_cases y : i = h ∧ j = w
    · obtain ⟨rfl, rfl⟩ := y
      exact hp hi hj
    · exact aPf_cg (fun f a b => e3 f i j a b y) (hI.2.2.2.2 i j hi hj)
theorem aInv_get (hI : aInv A n m T) {s w h g : Nat} (hs : s < n) (hh : h < n) (hw : w < m) (hg : g ≤ 12) (k4 : A 4 h w = 0) : aInv (aGet A s w h (nI g)) n m T := by
  obtain ⟨p1, p2, p3, p4, p5, p6, p7, p8, p9, p10, p11, p12⟩ := hI.2.2.2.2 h w hh hw
  have out : ∀ f i j, f < 3 ∨ (3 ≤ f ∧ f ≤ 11 ∧ ¬ (i = h ∧ j = w)) → aGet A s w h (nI g) f i j = A f i j := fun f i j q => by
    unfold aGet
    split
    · rw [aup, if_neg (by omega), aup, if_neg (by omega), aup, if_neg (by omega)]
    · rw [aup, if_neg (by omega), aup, if_neg (by omega), aup, if_neg (by omega), aup, if_neg (by omega), aup, if_neg (by omega), aup, if_neg (by omega)]
  have v3 : aGet A s w h (nI g) 3 h w = 1 := by unfold aGet; split <;> simp [aup]
  have v4 : aGet A s w h (nI g) 4 h w = A 4 h w := by unfold aGet; split <;> simp [aup]
  have v5 : aGet A s w h (nI g) 5 h w = nI s := by unfold aGet; split <;> simp [aup]
  have v6 : aGet A s w h (nI g) 6 h w = nI g := by unfold aGet; split <;> simp [aup]
  have v10 : aGet A s w h (nI g) 10 h w = A 10 h w := by unfold aGet; split <;> simp [aup]
  have v11 : aGet A s w h (nI g) 11 h w = A 11 h w := by unfold aGet; split <;> simp [aup]
  refine aInv_1 (h := h) (w := w) hI (fun f i j q => out f i j (Or.inl q)) (fun f i j a b q => out f i j (Or.inr ⟨a, b, q⟩)) (fun _ _ => ?_) (fun _ _ _ => by rw [v4]; exact k4)
  unfold aPf
  rw [v3, v4, v5, v6, v10, v11]
  obtain ⟨-, eT, -, -, -, -, -, -, ⟨x4, hx4, e4⟩⟩ := hI.2.1
  refine ⟨Or.inr rfl, p2, ?_, p4, Or.inr ⟨s, hs, rfl⟩, ⟨g, hg, rfl⟩, ?_, ?_, p9, fun z => absurd z (by decide), fun z => ?_, p12⟩
  · unfold aGet; split
    · simpa [aup] using p3
    · simp [aup]
  · unfold aGet; split
    · simpa [aup] using p7
    · exact ⟨T, by omega, by simpa [aup] using eT⟩
  · unfold aGet; split
    · simpa [aup] using p8
    · rename_i q
      rw [e4, nI_ltI (by omega) (by omega)] at q
      exact ⟨g, by omega, by simp [aup]⟩
  · rw [k4] at z; exact absurd z (by decide)
theorem aInv_learn (hI : aInv A n m T) {w h : Nat} (hh : h < n) (hw : w < m) (k2 : ¬ A 2 w 4 = -1) : aInv (aLearn A n h w) n m T := by
  obtain ⟨p1, p2, p3, p4, p5, p6, p7, p8, p9, p10, p11, p12⟩ := hI.2.2.2.2 h w hh hw
  have out : ∀ f i j, f < 3 ∨ (3 ≤ f ∧ f ≤ 11 ∧ ¬ (i = h ∧ j = w)) → aLearn A n h w f i j = A f i j := fun f i j q => by
    unfold aLearn
    split
    · rw [aup, if_neg (by omega), aup, if_neg (by omega)]
    · rw [aup, if_neg (by omega), aup, if_neg (by omega), aup, if_neg (by omega), aup, if_neg (by omega)]
  have v3 : aLearn A n h w 3 h w = A 3 h w := by unfold aLearn; split <;> simp [aup]
  have v4 : aLearn A n h w 4 h w = 1 := by unfold aLearn; split <;> simp [aup]
  have v5 : aLearn A n h w 5 h w = A 5 h w := by unfold aLearn; split <;> simp [aup]
  have v6 : aLearn A n h w 6 h w = A 6 h w := by unfold aLearn; split <;> simp [aup]
  have v7 : aLearn A n h w 7 h w = 0 := by unfold aLearn; split <;> simp [aup]
  have v8 : aLearn A n h w 8 h w = A 8 h w := by unfold aLearn; split <;> simp [aup]
  have v9 : aLearn A n h w 9 h w = A 9 h w := by unfold aLearn; split <;> simp [aup]
  refine aInv_1 (h := h) (w := w) hI (fun f i j q => out f i j (Or.inl q)) (fun f i j a b q => out f i j (Or.inr ⟨a, b, q⟩)) (fun _ _ => ?_) (fun _ _ q => absurd q k2)
  unfold aPf
  rw [v3, v4, v5, v6, v7, v8, v9]
  obtain ⟨-, eT, -⟩ := hI.2.1
  refine ⟨p1, Or.inr rfl, Or.inl rfl, ?_, p5, p6, p7, p8, ?_, p10, fun _ => rfl, fun _ => rfl⟩
  · unfold aLearn; split
    · simpa [aup] using p4
    · simp [aup]
  · unfold aLearn; split
    · simpa [aup] using p9
    · exact ⟨T, by omega, by simpa [aup] using eT⟩
theorem aInv_take (hI : aInv A n m T) {s w h g : Nat} {c : Bool} (hs : s < n) (hh : h < n) (hw : w < m) (hg : g ≤ 12) (k2 : c = true → ¬ A 2 w 4 = -1) (k4 : A 4 h w = 0) : aInv (aTake A n s w c (nI g) h) n m T := by
  unfold aTake
  split
  · rename_i q; exact aInv_c13 (aInv_learn hI hh hw (k2 q))
  · exact aInv_c13 (aInv_get hI hs hh hw hg k4)
theorem aInv_owt (hI : aInv A n m T) {s w : Nat} : aInv (aup A 11 s w (nI (T + 1))) n m T := by
  refine aInv_1 (h := s) (w := w) hI (fun f i j q => by rw [aup, if_neg (by omega)]) (fun f i j a b q => by rw [aup, if_neg (by omega)]) (fun hh hw => ?_) (fun hh hw q => by simpa [aup] using hI.2.2.2.1 w hw q s hh)
  obtain ⟨p1, p2, p3, p4, p5, p6, p7, p8, p9, p10, p11, p12⟩ := hI.2.2.2.2 s w hh hw
  unfold aPf
  have e : ∀ f, f ≠ 11 → aup A 11 s w (nI (T + 1)) f s w = A f s w := fun f hf => by rw [aup, if_neg (by omega)]
  rw [e 3 (by decide), e 4 (by decide), e 5 (by decide), e 6 (by decide), e 7 (by decide), e 8 (by decide), e 9 (by decide), e 10 (by decide)]
  exact ⟨p1, p2, p3, p4, p5, p6, p7, p8, ⟨T + 1, Nat.le_refl _, by simp [aup]⟩, p10, p11, p12⟩
theorem aInv_has0 (hI : aInv A n m T) {s w : Nat} : aInv (aup A 7 s w 0) n m T := by
  refine aInv_1 (h := s) (w := w) hI (fun f i j q => by rw [aup, if_neg (by omega)]) (fun f i j a b q => by rw [aup, if_neg (by omega)]) (fun hh hw => ?_) (fun hh hw q => by simpa [aup] using hI.2.2.2.1 w hw q s hh)
  obtain ⟨p1, p2, p3, p4, p5, p6, p7, p8, p9, p10, p11, p12⟩ := hI.2.2.2.2 s w hh hw
  unfold aPf
  have e : ∀ f, f ≠ 7 → aup A 7 s w 0 f s w = A f s w := fun f hf => by rw [aup, if_neg (by omega)]
  rw [e 3 (by decide), e 4 (by decide), e 5 (by decide), e 6 (by decide), e 8 (by decide), e 9 (by decide), e 10 (by decide), e 11 (by decide)]
  have e7 : aup A 7 s w 0 7 s w = 0 := by simp [aup]
  rw [e7]
  exact ⟨p1, p2, Or.inl rfl, p4, p5, p6, p7, p8, p9, p10, fun _ => rfl, p12⟩
end IV
theorem zmx_nn {f : Nat → Int32} : ∀ {n : Nat}, 0 ≤ (zmx f n).toInt
  | 0 => by rw [zmx]; decide
  | n + 1 => by
    rw [zmx]
    have ih := zmx_nn (f := f) (n := n)
    split
    · rename_i q; rw [Int32.lt_iff_toInt_lt] at q; omega
    · exact ih
theorem zmx_cong {f g : Nat → Int32} : ∀ {n : Nat}, (∀ i, i < n → f i = g i) → zmx f n = zmx g n
  | 0, _ => rfl
  | n + 1, h => by rw [zmx, zmx, zmx_cong (fun i hi => h i (by omega)), h n (by omega)]
theorem zmx_up {f g : Nat → Int32} {h : Nat} {x : Int32} (h0 : f h = 0) (hx : g h = x) (hn : 0 ≤ x.toInt) (he : ∀ i, i ≠ h → g i = f i) : ∀ {n : Nat}, h < n → zmx g n = if zmx f n < x then x else zmx f n
  | 0, hl => absurd hl (Nat.not_lt_zero h)
  | n + 1, hl => by
    have nn := zmx_nn (f := f) (n := n)
    rw [zmx, zmx]
    by_cases q : n = h
    · subst q
      rw [zmx_cong (f := g) (g := f) (fun i hi => he i (by omega)), h0, hx]
      have : ¬ zmx f n < 0 := by
        rw [Int32.lt_iff_toInt_lt, Int32.toInt_zero]; omega
      rw [if_neg this]
    · rw [zmx_up h0 hx hn he (n := n) (by omega), he n q]
      generalize zmx f n = a at *
      generalize f n = b
      have k : ∀ y z : Int32, y < z ↔ y.toInt < z.toInt := fun y z => Int32.lt_iff_toInt_lt
      by_cases c1 : a < x <;> by_cases c2 : a < b <;> by_cases c3 : x < b <;> by_cases c4 : b < x
      all_goals simp only [c1, c2, c3, c4, if_true, if_false]
      all_goals rw [k] at c1 c2 c3 c4
      all_goals first | rfl | omega | (apply Int32.toInt_inj.mp; omega)

