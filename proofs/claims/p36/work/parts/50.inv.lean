/-! what holds of news, sources and queues -/
def aKc (A : zAb) (n w : Nat) : Nat := fb_ct (fun h => decide (A 3 h w = 1)) n
def aPo (A : zAb) (n T h w : Nat) : Prop :=
  (∀ s, s < n → A 5 h w = nI s → A 3 h w = 1 ∧ s ≠ h ∧ aRng A s h = true ∧ A 3 s w = 1 ∧ A 6 h w = A 6 s w + 1) ∧
  (A 5 h w = -1 → A 6 h w = 0) ∧ (A 3 h w = 1 → ∃ g, A 6 h w = nI g ∧ g < aKc A n w) ∧ (A 3 h w = 1 → A 5 h w = -1 → A 2 w 0 = nI h) ∧
  (A 7 h w = 1 → A 3 h w = 1 ∧ A 9 h w = A 6 h w ∧ ∃ t, t ≤ T ∧ A 8 h w = nI t) ∧ (A 10 h w = 1 → ∃ t, t ≤ T ∧ A 11 h w = nI t)
def aWo (A : zAb) (n w : Nat) : Prop := (∃ a, a < n ∧ A 2 w 0 = nI a ∧ A 3 a w = 1 ∧ A 5 a w = -1) ∧ (A 2 w 4 = -1 ∨ ∃ k, k < n ∧ A 2 w 4 = nI k ∧ A 4 k w = 1)
def aOk (A : zAb) (n m T : Nat) : Prop := (∀ w, w < m → aWo A n w) ∧ ∀ h w, h < n → w < m → aPo A n T h w
section OK
variable {A B : zAb} {n m T T' : Nat}
theorem aRng_cg (e : ∀ i j, j < 3 → B 1 i j = A 1 i j) (s h : Nat) : aRng B s h = aRng A s h := by
  unfold aRng aDist
  simp only [e _ 0 (by decide), e _ 1 (by decide), e _ 2 (by decide)]
theorem aKc_le (A : zAb) (n w : Nat) : aKc A n w ≤ n := fb_ct_le _ n
/-- one pair may change, and what is asked of it is handed over; who knew knows -/
theorem aPo_keep {h w : Nat} (hT : T ≤ T') (e1 : ∀ s h, aRng B s h = aRng A s h) (e2 : B 2 w 0 = A 2 w 0) (e : ∀ f, 3 ≤ f → f ≤ 11 → B f h w = A f h w) (es : ∀ s, s < n → A 3 s w = 1 → B 3 s w = 1 ∧ B 6 s w = A 6 s w) (hp : aPo A n T h w) : aPo B n T' h w := by
  obtain ⟨p1, p2, p3, p4, p5, p6⟩ := hp
  have q3 := e 3 (by decide) (by decide)
  have q5 := e 5 (by decide) (by decide)
  have q6 := e 6 (by decide) (by decide)
  have q7 := e 7 (by decide) (by decide)
  have q8 := e 8 (by decide) (by decide)
  have q9 := e 9 (by decide) (by decide)
  have q10 := e 10 (by decide) (by decide)
  have q11 := e 11 (by decide) (by decide)
  unfold aPo
  rw [q3, q5, q6, q7, q8, q9, q10, q11, e2]
  refine ⟨fun s hs y => ?_, p2, fun y => ?_, p4, fun y => ?_, fun y => ?_⟩
  · obtain ⟨a, b, c, d, f⟩ := p1 s hs y
    obtain ⟨g1, g2⟩ := es s hs d
    exact ⟨a, b, by rw [e1]; exact c, g1, by rw [g2]; exact f⟩
  · obtain ⟨g, a, b⟩ := p3 y
    refine ⟨g, a, Nat.lt_of_lt_of_le b (fb_ct_sub (fun k hk z => ?_))⟩
    exact decide_eq_true (es k hk (of_decide_eq_true z)).1
  · obtain ⟨a, b, t, c, d⟩ := p5 y
    exact ⟨a, b, t, Nat.le_trans c hT, d⟩
  · obtain ⟨t, c, d⟩ := p6 y
    exact ⟨t, Nat.le_trans c hT, d⟩
theorem aWo_keep {w : Nat} (e2 : B 2 w 0 = A 2 w 0) (e4 : B 2 w 4 = A 2 w 4) (e : ∀ a, a < n → A 3 a w = 1 → B 3 a w = 1 ∧ B 5 a w = A 5 a w) (es : ∀ a, a < n → A 4 a w = 1 → B 4 a w = 1) (hp : aWo A n w) : aWo B n w := by
  obtain ⟨⟨a, ha, a1, a2, a3⟩, b⟩ := hp
  refine ⟨⟨a, ha, by rw [e2]; exact a1, (e a ha a2).1, by rw [(e a ha a2).2]; exact a3⟩, ?_⟩
  rw [e4]
  rcases b with b | ⟨k, hk, b1, b2⟩
  · exact Or.inl b
  · exact Or.inr ⟨k, hk, b1, es k hk b2⟩
theorem aOk_cg (hO : aOk A n m T) (hT : T ≤ T') (e1 : ∀ s h, aRng B s h = aRng A s h) (e2 : ∀ w, B 2 w 0 = A 2 w 0 ∧ B 2 w 4 = A 2 w 4) (e : ∀ f h w, 3 ≤ f → f ≤ 11 → B f h w = A f h w) : aOk B n m T' :=
  ⟨fun w hw => aWo_keep (e2 w).1 (e2 w).2 (fun a _ q => ⟨by rw [e 3 _ _ (by decide) (by decide)]; exact q, e 5 _ _ (by decide) (by decide)⟩) (fun a _ q => by rw [e 4 _ _ (by decide) (by decide)]; exact q) (hO.1 w hw),
   fun h w hh hw => aPo_keep hT e1 (e2 w).1 (fun f a b => e f h w a b) (fun s _ q => ⟨by rw [e 3 _ _ (by decide) (by decide)]; exact q, e 6 _ _ (by decide) (by decide)⟩) (hO.2 h w hh hw)⟩
/-- one pair changes: its knowledge of the news, source and hops stay, but for a house that did not know -/
theorem aOk_1 (hO : aOk A n m T) {h w : Nat} (hT : T ≤ T') (e0 : ∀ f i j, f < 3 → B f i j = A f i j) (e3 : ∀ f i j, 3 ≤ f → f ≤ 11 → ¬ (i = h ∧ j = w) → B f i j = A f i j) (hk : A 3 h w = 1 → B 3 h w = 1 ∧ B 5 h w = A 5 h w ∧ B 6 h w = A 6 h w) (h4 : A 4 h w = 1 → B 4 h w = 1) (hp : h < n → w < m → aPo B n T' h w) : aOk B n m T' := by
  have e1 : ∀ s h, aRng B s h = aRng A s h := fun s h => aRng_cg (fun i j _ => e0 1 i j (by decide)) s h
  have k3 : ∀ i j, A 3 i j = 1 → B 3 i j = 1 ∧ B 5 i j = A 5 i j ∧ B 6 i j = A 6 i j := fun i j q => by
    by_cases y : i = h ∧ j = w
    · obtain ⟨rfl, rfl⟩ := y; exact hk q
    · exact ⟨by rw [e3 3 i j (by decide) (by decide) y]; exact q, e3 5 i j (by decide) (by decide) y, e3 6 i j (by decide) (by decide) y⟩
  refine ⟨fun j hj => aWo_keep (e0 2 j 0 (by decide)) (e0 2 j 4 (by decide)) (fun a _ q => ⟨(k3 a j q).1, (k3 a j q).2.1⟩) (fun a _ q => ?_) (hO.1 j hj), fun i j hi hj => ?_⟩
  · by_cases y : a = h ∧ j = w
    · obtain ⟨rfl, rfl⟩ := y; exact h4 q
    · rw [e3 4 a j (by decide) (by decide) y]; exact q
  · by_cases y : i = h ∧ j = w
    · obtain ⟨rfl, rfl⟩ := y; exact hp hi hj
    · exact aPo_keep hT e1 (e0 2 j 0 (by decide)) (fun f a b => e3 f i j a b y) (fun s _ q => ⟨(k3 s j q).1, (k3 s j q).2.2⟩) (hO.2 i j hi hj)
theorem aOk_get (hI : aInv A n m T) (hO : aOk A n m T) {s w h : Nat} {hops : Int32} (hs : s < n) (hh : h < n) (hw : w < m) (hne : s ≠ h) (k3 : A 3 h w = 0) (rg : aRng A s h = true) (ks : A 3 s w = 1) (eh : hops = A 6 s w + 1) : aOk (aGet A s w h hops) n m T := by
  have hn := hI.1.2.2.1
  have out : ∀ f i j, f < 3 ∨ (3 ≤ f ∧ f ≤ 11 ∧ ¬ (i = h ∧ j = w)) → aGet A s w h hops f i j = A f i j := fun f i j q => by
    unfold aGet
    split
    · rw [aup, if_neg (by omega), aup, if_neg (by omega), aup, if_neg (by omega)]
    · rw [aup, if_neg (by omega), aup, if_neg (by omega), aup, if_neg (by omega), aup, if_neg (by omega), aup, if_neg (by omega), aup, if_neg (by omega)]
  have v3 : aGet A s w h hops 3 h w = 1 := by unfold aGet; split <;> simp [aup]
  have v4 : aGet A s w h hops 4 h w = A 4 h w := by unfold aGet; split <;> simp [aup]
  have v5 : aGet A s w h hops 5 h w = nI s := by unfold aGet; split <;> simp [aup]
  have v6 : aGet A s w h hops 6 h w = hops := by unfold aGet; split <;> simp [aup]
  have v10 : aGet A s w h hops 10 h w = A 10 h w := by unfold aGet; split <;> simp [aup]
  have v11 : aGet A s w h hops 11 h w = A 11 h w := by unfold aGet; split <;> simp [aup]
  have no3 : ¬ A 3 h w = 1 := by rw [k3]; decide
  obtain ⟨p1, p2, p3, p4, p5, p6⟩ := hO.2 h w hh hw
  obtain ⟨g, g1, g2⟩ := (hO.2 s w hs hw).2.2.1 ks
  have vs : ∀ f, 3 ≤ f → f ≤ 11 → aGet A s w h hops f s w = A f s w := fun f a b => out f s w (Or.inr ⟨a, b, fun z => hne z.1⟩)
  refine aOk_1 hO (h := h) (w := w) (Nat.le_refl T) (fun f i j q => out f i j (Or.inl q)) (fun f i j a b q => out f i j (Or.inr ⟨a, b, q⟩)) (fun q => absurd q no3) (fun q => by rw [v4]; exact q) (fun _ _ => ?_)
  refine ⟨fun s' hs' y => ?_, fun y => ?_, fun _ => ?_, fun _ y => ?_, fun y => ?_, fun y => ?_⟩
  · rw [v5] at y
    have : s = s' := (nI_eq (by omega) (by omega)).mp y
    subst this
    refine ⟨v3, hne, ?_, by rw [vs 3 (by decide) (by decide)]; exact ks, ?_⟩
    · rw [aRng_cg (A := A) (fun i j _ => out 1 i j (Or.inl (by decide)))]; exact rg
    · rw [v6, vs 6 (by decide) (by decide), eh]
  · rw [v5] at y; exact absurd y (nI_m1 (by omega))
  · refine ⟨g + 1, by rw [v6, eh, g1, nI_1], ?_⟩
    have : aKc (aGet A s w h hops) n w = aKc A n w + 1 := by
      unfold aKc
      have e : (fun i => decide (aGet A s w h hops 3 i w = 1)) = fun k => if k = h then true else decide (A 3 k w = 1) := by
        funext k
        by_cases q : k = h
        · subst q; rw [v3, if_pos rfl]; rfl
        · rw [out 3 k w (Or.inr ⟨by decide, by decide, fun z => q z.1⟩), if_neg q]
      rw [e]
      have := fb_ct_upd (fun k => decide (A 3 k w = 1)) true hh
      rw [if_neg (show ¬ decide (A 3 h w = 1) = true by simpa using no3), if_pos rfl] at this
      omega
    omega
  · rw [v5] at y; exact absurd y (nI_m1 (by omega))
  · unfold aGet at y
    by_cases q : A 0 4 0 < hops
    · rw [if_pos q] at y
      have y : A 7 h w = 1 := by simpa [aup] using y
      exact absurd (p5 y).1 no3
    · have e9 : aGet A s w h hops 9 h w = hops := by unfold aGet; rw [if_neg q]; simp [aup]
      have e8 : aGet A s w h hops 8 h w = A 0 8 0 := by unfold aGet; rw [if_neg q]; simp [aup]
      exact ⟨v3, by rw [e9, v6], T, Nat.le_refl T, by rw [e8]; exact hI.2.1.2.1⟩
  · rw [v10] at y; rw [v11]; exact p6 y
theorem aOk_learn (hI : aInv A n m T) (hO : aOk A n m T) {w h : Nat} : aOk (aLearn A n h w) n m T := by
  have out : ∀ f i j, f < 3 ∨ (3 ≤ f ∧ f ≤ 11 ∧ ¬ (i = h ∧ j = w)) → aLearn A n h w f i j = A f i j := fun f i j q => by
    unfold aLearn
    split
    · rw [aup, if_neg (by omega), aup, if_neg (by omega)]
    · rw [aup, if_neg (by omega), aup, if_neg (by omega), aup, if_neg (by omega), aup, if_neg (by omega)]
  have v3 : aLearn A n h w 3 h w = A 3 h w := by unfold aLearn; split <;> simp [aup]
  have v4 : aLearn A n h w 4 h w = 1 := by unfold aLearn; split <;> simp [aup]
  have v5 : aLearn A n h w 5 h w = A 5 h w := by unfold aLearn; split <;> simp [aup]
  have v6 : aLearn A n h w 6 h w = A 6 h w := by unfold aLearn; split <;> simp [aup]
  have v7 : aLearn A n h w 7 h w = 0 := by unfold aLearn; split <;> simp [aup]
  refine aOk_1 hO (h := h) (w := w) (Nat.le_refl T) (fun f i j q => out f i j (Or.inl q)) (fun f i j a b q => out f i j (Or.inr ⟨a, b, q⟩)) (fun q => ⟨v3.trans q, v5, v6⟩) (fun _ => v4) (fun hh hw => ?_)
  obtain ⟨p1, p2, p3, p4, p5, p6⟩ := hO.2 h w hh hw
  have o3 : ∀ i, aLearn A n h w 3 i w = A 3 i w := fun i => by
    by_cases y : i = h
    · subst y; exact v3
    · exact out 3 i w (Or.inr ⟨by decide, by decide, fun z => y z.1⟩)
  have o6 : ∀ i, aLearn A n h w 6 i w = A 6 i w := fun i => by
    by_cases y : i = h
    · subst y; exact v6
    · exact out 6 i w (Or.inr ⟨by decide, by decide, fun z => y z.1⟩)
  have ek : aKc (aLearn A n h w) n w = aKc A n w := by unfold aKc; simp only [o3]
  unfold aPo
  rw [v3, v5, v6, v7, ek, out 2 w 0 (Or.inl (by decide))]
  refine ⟨fun s hs y => ?_, p2, p3, p4, fun y => absurd y (by decide), fun y => ?_⟩
  · obtain ⟨a, b, c, d, f⟩ := p1 s hs y
    exact ⟨a, b, by rw [aRng_cg (A := A) (fun i j _ => out 1 i j (Or.inl (by decide)))]; exact c, by rw [o3]; exact d, by rw [o6]; exact f⟩
  · unfold aLearn at y ⊢
    by_cases q : aOws (aup (aup A 4 h w 1) 7 h w 0) n h w = 0
    · rw [if_pos q] at y ⊢
      have y : A 10 h w = 1 := by simpa [aup] using y
      obtain ⟨t, a, b⟩ := p6 y
      exact ⟨t, a, by simpa [aup] using b⟩
    · rw [if_neg q]
      exact ⟨T, Nat.le_refl T, by simpa [aup] using hI.2.1.2.1⟩
theorem aOk_owt (hO : aOk A n m T) {s w : Nat} : aOk (aup A 11 s w (nI (T + 1))) n m (T + 1) := by
  have e : ∀ f i j, f ≠ 11 → aup A 11 s w (nI (T + 1)) f i j = A f i j := fun f i j h => aup_f h
  refine aOk_1 hO (h := s) (w := w) (Nat.le_succ T) (fun f i j q => e f i j (by omega)) (fun f i j a b q => by rw [aup, if_neg (by omega)]) (fun q => ⟨by rw [e _ _ _ (by decide)]; exact q, e _ _ _ (by decide), e _ _ _ (by decide)⟩) (fun q => by rw [e _ _ _ (by decide)]; exact q) (fun hh hw => ?_)
  obtain ⟨p1, p2, p3, p4, p5, p6⟩ := hO.2 s w hh hw
  have ek : aKc (aup A 11 s w (nI (T + 1))) n w = aKc A n w := by unfold aKc; simp only [e 3 _ _ (by decide)]
  have er : ∀ s' h', aRng (aup A 11 s w (nI (T + 1))) s' h' = aRng A s' h' := fun s' h' => aRng_cg (fun i j _ => e 1 i j (by decide)) s' h'
  unfold aPo
  rw [ek]
  simp only [e 2 _ _ (show (2 : Nat) ≠ 11 by decide), e 3 _ _ (show (3 : Nat) ≠ 11 by decide), e 5 _ _ (show (5 : Nat) ≠ 11 by decide), e 6 _ _ (show (6 : Nat) ≠ 11 by decide), e 7 _ _ (show (7 : Nat) ≠ 11 by decide), e 8 _ _ (show (8 : Nat) ≠ 11 by decide), e 9 _ _ (show (9 : Nat) ≠ 11 by decide), e 10 _ _ (show (10 : Nat) ≠ 11 by decide), er]
  refine ⟨p1, p2, p3, p4, fun y => ?_, fun _ => ⟨T + 1, Nat.le_refl _, aup_s⟩⟩
  obtain ⟨a, b, t, c, d⟩ := p5 y
  exact ⟨a, b, t, by omega, d⟩
theorem aOk_has0 (hO : aOk A n m T) {s w : Nat} : aOk (aup A 7 s w 0) n m T := by
  have e : ∀ f i j, f ≠ 7 → aup A 7 s w 0 f i j = A f i j := fun f i j h => aup_f h
  refine aOk_1 hO (h := s) (w := w) (Nat.le_refl T) (fun f i j q => e f i j (by omega)) (fun f i j a b q => by rw [aup, if_neg (by omega)]) (fun q => ⟨by rw [e _ _ _ (by decide)]; exact q, e _ _ _ (by decide), e _ _ _ (by decide)⟩) (fun q => by rw [e _ _ _ (by decide)]; exact q) (fun hh hw => ?_)
  obtain ⟨p1, p2, p3, p4, p5, p6⟩ := hO.2 s w hh hw
  have ek : aKc (aup A 7 s w 0) n w = aKc A n w := by unfold aKc; simp only [e 3 _ _ (by decide)]
  have er : ∀ s' h', aRng (aup A 7 s w 0) s' h' = aRng A s' h' := fun s' h' => aRng_cg (fun i j _ => e 1 i j (by decide)) s' h'
  unfold aPo
  rw [ek]
  simp only [e 2 _ _ (show (2 : Nat) ≠ 7 by decide), e 3 _ _ (show (3 : Nat) ≠ 7 by decide), e 5 _ _ (show (5 : Nat) ≠ 7 by decide), e 6 _ _ (show (6 : Nat) ≠ 7 by decide), e 8 _ _ (show (8 : Nat) ≠ 7 by decide), e 9 _ _ (show (9 : Nat) ≠ 7 by decide), e 10 _ _ (show (10 : Nat) ≠ 7 by decide), e 11 _ _ (show (11 : Nat) ≠ 7 by decide), er]
  exact ⟨p1, p2, p3, p4, fun y => by rw [aup_s] at y; exact absurd y (by decide), p6⟩
theorem aOk_paid (hO : aOk A n m T) : aOk (aPaid A n m) n m T := by
  have e : ∀ f i j, f ≠ 10 → aPaid A n m f i j = A f i j := fun f i j h => by rw [aPaid, if_neg (fun z => h z.1)]
  have ek : ∀ w, aKc (aPaid A n m) n w = aKc A n w := fun w => by unfold aKc; simp only [e 3 _ _ (by decide)]
  have er : ∀ s' h', aRng (aPaid A n m) s' h' = aRng A s' h' := fun s' h' => aRng_cg (fun i j _ => e 1 i j (by decide)) s' h'
  refine ⟨fun w hw => ?_, fun h w hh hw => ?_⟩
  · have := hO.1 w hw
    unfold aWo at this ⊢
    simpa only [e 2 _ _ (show (2 : Nat) ≠ 10 by decide), e 3 _ _ (show (3 : Nat) ≠ 10 by decide), e 5 _ _ (show (5 : Nat) ≠ 10 by decide), e 4 _ _ (show (4 : Nat) ≠ 10 by decide)] using this
  · obtain ⟨p1, p2, p3, p4, p5, p6⟩ := hO.2 h w hh hw
    unfold aPo
    rw [ek]
    simp only [e 2 _ _ (show (2 : Nat) ≠ 10 by decide), e 3 _ _ (show (3 : Nat) ≠ 10 by decide), e 5 _ _ (show (5 : Nat) ≠ 10 by decide), e 6 _ _ (show (6 : Nat) ≠ 10 by decide), e 8 _ _ (show (8 : Nat) ≠ 10 by decide), e 9 _ _ (show (9 : Nat) ≠ 10 by decide), e 7 _ _ (show (7 : Nat) ≠ 10 by decide), e 11 _ _ (show (11 : Nat) ≠ 10 by decide), er]
    refine ⟨p1, p2, p3, p4, p5, fun y => p6 ?_⟩
    unfold aPaid at y
    split at y
    · exact absurd y (by decide)
    · exact y
theorem aOk_pr (hI : aInv A n m T) (hO : aOk A n m T) {s w g : Nat} {c : Bool} (hs : s < n) (hw : w < m) (hg : g ≤ 12) (k2 : c = true → ¬ A 2 w 4 = -1) {hd : Nat → Bool} (h0 : hd s = false) (hr : ∀ i, i < n → hd i = true → aRng A s i = true) (ks : c = false → A 3 s w = 1 ∧ nI g = A 6 s w + 1) : ∀ k, k ≤ n → aOk (aPr A n s w c (nI g) hd k) n m T
  | 0, _ => hO
  | k + 1, hk => by
    have ih := aOk_pr hI hO hs hw hg k2 h0 hr ks k (by omega)
    have iv := aInv_pr hI hs hw hg k2 hd k (by omega)
    rw [aPr]
    by_cases q : (hd k && aTk (aPr A n s w c (nI g) hd k) c w k) = true
    · rw [if_pos q]
      rw [Bool.and_eq_true] at q
      obtain ⟨g4, g3⟩ := aTk_e iv (by omega) hw q.2
      have vs : ∀ f, 3 ≤ f → f ≤ 11 → aPr A n s w c (nI g) hd k f s w = A f s w := fun f a b => aPr_out (Or.inr (Or.inr ⟨a, b, fun z => by rw [h0] at z; exact absurd z.2.2 (by decide)⟩))
      have hne : s ≠ k := fun z => by subst z; rw [h0] at q; exact absurd q.1 (by decide)
      unfold aTake
      cases c with
      | true =>
        rw [if_pos rfl]
        refine aOk_cg (aOk_learn iv ih (w := w) (h := k)) (Nat.le_refl T) (fun s' h' => aRng_cg (fun i j _ => aup_f (by decide)) s' h') (fun w' => ⟨aup_f (by decide), aup_f (by decide)⟩) (fun f i j a b => aup_f (by omega))
      | false =>
        rw [if_neg (by decide)]
        obtain ⟨ks1, ks2⟩ := ks rfl
        refine aOk_cg (aOk_get iv ih hs (by omega) hw hne (g3 rfl) ?_ ?_ ?_ (hops := nI g)) (Nat.le_refl T) (fun s' h' => aRng_cg (fun i j _ => aup_f (by decide)) s' h') (fun w' => ⟨aup_f (by decide), aup_f (by decide)⟩) (fun f i j a b => aup_f (by omega))
        · rw [aRng_cg (A := A) (fun i j _ => aPr_out (Or.inl (by decide)))]
          exact hr k (by omega) q.1
        · rw [vs 3 (by decide) (by decide)]; exact ks1
        · rw [vs 6 (by decide) (by decide)]; exact ks2
    · rw [if_neg q]; exact ih
theorem aOk_speak (hI : aInv A n m T) (hO : aOk A n m T) {s e : Nat} (hs : s < n) (hb : ¬ A 1 s 3 < A 0 0 0) (he : aFirst A n m s = some e) : aOk (aSpeak A n s (e / 2) (decide (e % 2 = 1))) n m (T + 1) := by
  obtain ⟨⟨hw, ent⟩, -, -⟩ := aFirst_some he
  generalize e / 2 = w at *
  have hdl : ∀ i, i < n → aHd A s i = true → ¬ A 1 i 3 < A 0 1 0 := fun i _ q => by
    unfold aHd at q
    simp only [Bool.and_eq_true, Bool.not_eq_true', decide_eq_false_iff_not] at q
    exact q.2
  have I1 := aInv_spend hI hs hb (aHd A s) aHd_s hdl
  have p := hI.2.2.2.2 s w hs hw
  obtain ⟨g, hg, eg⟩ := p.2.2.2.2.2.2.2.1
  have oo : ∀ f i j, f ≠ 0 → f ≠ 1 → f ≠ 13 → aSd (aSp A s) (aHd A s) n f i j = A f i j := fun f i j a b c => by rw [aSd_at (by omega), aSp_at (by omega)]
  have o1 : ∀ i j, j < 3 → aSd (aSp A s) (aHd A s) n 1 i j = A 1 i j := fun i j hj => by
    rw [aSd, if_neg (by omega), if_neg (by omega)]
    unfold aSp
    rw [aup, if_neg (by omega), aup, if_neg (by omega), aup, if_neg (by omega), aup, if_neg (by omega), aup, if_neg (by omega)]
  have O1 : aOk (aSd (aSp A s) (aHd A s) n) n m T := aOk_cg hO (Nat.le_refl T) (fun s' h' => aRng_cg o1 s' h') (fun w' => ⟨oo 2 w' 0 (by decide) (by decide) (by decide), oo 2 w' 4 (by decide) (by decide) (by decide)⟩) (fun f i j a b => oo f i j (by omega) (by omega) (by omega))
  have k2 : decide (e % 2 = 1) = true → ¬ aSd (aSp A s) (aHd A s) n 2 w 4 = -1 := fun q z => by
    rw [oo 2 w 4 (by decide) (by decide) (by decide)] at z
    have q := of_decide_eq_true q
    rw [if_pos q] at ent
    have k4 := p.2.2.2.2.2.2.2.2.2.2.2 ent
    rw [hI.2.2.2.1 w hw z s hs] at k4
    exact absurd k4 (by decide)
  have ks : decide (e % 2 = 1) = false → aSd (aSp A s) (aHd A s) n 3 s w = 1 ∧ nI (g + 1) = aSd (aSp A s) (aHd A s) n 6 s w + 1 := fun q => by
    have q := of_decide_eq_false q
    rw [if_neg q] at ent
    obtain ⟨a, b, -⟩ := (hO.2 s w hs hw).2.2.2.2.1 ent
    rw [oo 3 s w (by decide) (by decide) (by decide), oo 6 s w (by decide) (by decide) (by decide), ← b, eg, nI_1]
    exact ⟨a, rfl⟩
  have hr : ∀ i, i < n → aHd A s i = true → aRng (aSd (aSp A s) (aHd A s) n) s i = true := fun i _ q => by
    rw [aRng_cg o1]
    unfold aHd at q
    simp only [Bool.and_eq_true] at q
    exact q.1.1
  have main : aOk (aEn A n s w (decide (e % 2 = 1))) n m T := by
    unfold aEn
    rw [eg, nI_1]
    exact aOk_pr I1 O1 hs hw (by omega) k2 aHd_s hr ks n (Nat.le_refl n)
  have note : ∀ hm tm, aOk (aNote (aEn A n s w (decide (e % 2 = 1))) s (decide (e % 2 = 1)) w hm tm) n m T := fun hm tm =>
    aOk_cg main (Nat.le_refl T) (fun s' h' => aRng_cg (fun i j _ => by rw [aNote, if_neg (by omega), if_neg (by omega)]) s' h') (fun w' => ⟨by rw [aNote, if_neg (by omega), if_neg (by omega)], by rw [aNote, if_neg (by omega), if_neg (by omega)]⟩) (fun f i j a b => by rw [aNote, if_neg (by omega), if_neg (by omega)])
  rw [aSpeak_eq]
  have eT : A 0 8 0 + 1 = nI (T + 1) := by rw [hI.2.1.2.1, nI_1]
  split
  · rw [eT]; exact aOk_owt (note _ _)
  · exact aOk_cg (aOk_has0 (note _ _)) (Nat.le_succ T) (fun _ _ => rfl) (fun _ => ⟨rfl, rfl⟩) (fun _ _ _ _ _ => rfl)
/-- the two ways of a minute -/
theorem aMin_c (hI : aInv A n m T) : (zm (aWish (aBegin A n) n m) n = 0 ∧ aMin A n m = aup (aPaid (aBegin A n) n m) 0 8 0 (A 0 8 0 + 1)) ∨
    ∃ D s e, aInv D n m T ∧ D = aup (aBegin A n) 0 9 0 (nI (aX (aBegin A n))) ∧ ¬ zm (aWish (aBegin A n) n m) n = 0 ∧ s = aSpk (aBegin A n) n m ∧ s < n ∧ aWish (aBegin A n) n m s = true ∧ aFirst D n m s = some e ∧ ¬ D 1 s 3 < D 0 0 0 ∧ aMin A n m = aup (aPaid (aSpeak D n s (e / 2) (decide (e % 2 = 1))) n m) 0 8 0 (A 0 8 0 + 1) := by
  have hn := hI.1.2.2.1
  have I1 := aInv_begin hI
  unfold aMin
  dsimp only
  generalize aBegin A n = A1 at *
  by_cases q : zm (aWish A1 n m) n = 0
  · left
    rw [if_pos q]
    exact ⟨q, rfl⟩
  · right
    have hsh := (aInv_c I1).2.2.2
    obtain ⟨-, -, g3, g4⟩ := aSpk_in hn hsh q
    have edr : aDrawn A1 n m = aup A1 0 9 0 (nI (aX A1)) := if_neg q
    have g4w := g4
    unfold aWish at g4w
    simp only [Bool.and_eq_true, Bool.not_eq_true', decide_eq_false_iff_not] at g4w
    have I2 : aInv (aup A1 0 9 0 (nI (aX A1))) n m T := aInv_x I1 (Nat.mod_lt _ (by decide))
    have dz : ∀ f i j, f ≠ 0 → aup A1 0 9 0 (nI (aX A1)) f i j = A1 f i j := fun f i j h => by rw [aup, if_neg (fun z => h z.1)]
    have ow : ∀ h w, aOws (aup A1 0 9 0 (nI (aX A1))) n h w = aOws A1 n h w := fun h w => aOws_cg (fun i _ => dz _ _ _ (by decide)) (fun i _ => dz _ _ _ (by decide))
    have nr : ∀ h, aNear (aup A1 0 9 0 (nI (aX A1))) n h = aNear A1 n h := fun h => zm_congr (fun i _ => by unfold aRng aDist; simp [aup])
    cases ef : aFirst A1 n m (aSpk A1 n m) with
    | none => rw [ef] at g4w; exact absurd g4w.2 (by decide)
    | some e =>
      have ef2 : aFirst (aup A1 0 9 0 (nI (aX A1))) n m (aSpk A1 n m) = some e := by
        rw [← ef]
        unfold aFirst aFc aFn aSend
        simp only [ow, nr, dz _ _ _ (show (10 : Nat) ≠ 0 by decide), dz _ _ _ (show (11 : Nat) ≠ 0 by decide), dz _ _ _ (show (7 : Nat) ≠ 0 by decide), dz _ _ _ (show (8 : Nat) ≠ 0 by decide)]
      refine ⟨_, _, e, I2, rfl, q, rfl, g3, g4, ef2, by simpa [aup] using g4w.1.1.2, ?_⟩
      rw [if_neg q, edr]
theorem aOk_begin (hO : aOk A n m T) : aOk (aBegin A n) n m T :=
  aOk_cg hO (Nat.le_refl T) (fun s h => aRng_cg (fun i j hj => aBegin_at (Or.inr ⟨by omega, by omega⟩)) s h) (fun w => ⟨aBegin_at (Or.inl (by decide)), aBegin_at (Or.inl (by decide))⟩) (fun f i j a b => aBegin_at (Or.inl (by omega)))
theorem aOk_time (hO : aOk A n m T) (x : Int32) : aOk (aup A 0 8 0 x) n m T :=
  aOk_cg hO (Nat.le_refl T) (fun s h => aRng_cg (fun i j _ => aup_f (by decide)) s h) (fun w => ⟨aup_f (by decide), aup_f (by decide)⟩) (fun f i j a b => aup_f (by omega))
theorem aOk_min (hI : aInv A n m T) (hO : aOk A n m T) : aOk (aMin A n m) n m (T + 1) := by
  have O1 := aOk_begin hO
  rcases aMin_c hI with ⟨-, e⟩ | ⟨D, s, e, I2, eD, -, -, hs, -, ef, hb, em⟩
  · rw [e]
    exact aOk_time (aOk_paid (aOk_cg O1 (Nat.le_succ T) (fun _ _ => rfl) (fun _ => ⟨rfl, rfl⟩) (fun _ _ _ _ _ => rfl))) _
  · rw [em]
    have O2 : aOk D n m T := by
      rw [eD]
      exact aOk_cg O1 (Nat.le_refl T) (fun s h => aRng_cg (fun i j _ => aup_f (by decide)) s h) (fun w => ⟨aup_f (by decide), aup_f (by decide)⟩) (fun f i j a b => aup_f (by omega))
    exact aOk_time (aOk_paid (aOk_speak I2 O2 hs hb ef)) _
theorem aOk_pass {v : Nat} {σ : zSt} {c : Int32} (hC : zC σ v A n m c T) (hO : aOk A n m T) : ∀ k, T + k < 2 ^ 28 → aOk (aPass A n m k) n m (T + k)
  | 0, _ => hO
  | k + 1, hk => by
    obtain ⟨s, hs⟩ := c_passN (k := k) hC (by omega)
    exact aOk_min hs.2.2.1 (aOk_pass hC hO k (by omega))
theorem aOk_tell (hI : aInv A n m T) (hO : aOk A n m T) (hm : m < 20) {h : Nat} (hh : h < n) {body : Int32} : aOk (aTell A m h body) n (m + 1) T := by
  have hn := hI.1.2.2.1
  have o1 : ∀ i j, aTell A m h body 1 i j = A 1 i j := fun i j => aTell_at (Or.inl rfl)
  have op : ∀ f i w, 3 ≤ f → f ≤ 11 → w ≠ m → aTell A m h body f i w = A f i w := fun f i w a b c => aTell_at (Or.inr (Or.inr (Or.inr (Or.inr (Or.inr ⟨a, b, c⟩)))))
  have os : ∀ w j, w ≠ m → aTell A m h body 2 w j = A 2 w j := fun w j q => aTell_at (Or.inr (Or.inr (Or.inr (Or.inr (Or.inl ⟨rfl, q⟩)))))
  have er : ∀ s i, aRng (aTell A m h body) s i = aRng A s i := fun s i => aRng_cg (fun i j _ => o1 i j) s i
  have v3 : ∀ i, i < n → aTell A m h body 3 i m = if i = h then 1 else 0 := fun i hi => by
    rw [aTell_p (by decide) (by decide) (by omega)]
    by_cases q : i = h <;> simp [q]
  have vv : ∀ f i, i < n → f = 4 ∨ f = 5 ∨ f = 6 ∨ f = 9 ∨ f = 10 ∨ f = 11 → aTell A m h body f i m = if f = 5 then -1 else 0 := fun f i hi q => by
    rw [aTell_p (by omega) (by omega) (by omega), if_neg (by omega), if_neg (by omega), if_neg (by omega)]
  refine ⟨fun w hw => ?_, fun i w hi hw => ?_⟩
  · by_cases q : w = m
    · subst q
      refine ⟨⟨h, hh, ?_, ?_, ?_⟩, Or.inl ?_⟩
      · rw [aTell_s (by decide)]; rfl
      · rw [v3 h hh, if_pos rfl]
      · rw [vv 5 h hh (by decide)]; rfl
      · rw [aTell_s (by decide)]; rfl
    · exact aWo_keep (os w 0 q) (os w 4 q) (fun a _ y => ⟨by rw [op 3 a w (by decide) (by decide) q]; exact y, op 5 a w (by decide) (by decide) q⟩) (fun a _ y => by rw [op 4 a w (by decide) (by decide) q]; exact y) (hO.1 w (by omega))
  · by_cases q : w = m
    · subst q
      have e5 : aTell A w h body 5 i w = -1 := by rw [vv 5 i hi (by decide)]; rfl
      have e6 : aTell A w h body 6 i w = 0 := by rw [vv 6 i hi (by decide)]; rfl
      have e9 : aTell A w h body 9 i w = 0 := by rw [vv 9 i hi (by decide)]; rfl
      have e10 : aTell A w h body 10 i w = 0 := by rw [vv 10 i hi (by decide)]; rfl
      refine ⟨fun s hs y => ?_, fun _ => e6, fun y => ⟨0, e6, ?_⟩, fun y _ => ?_, fun y => ?_, fun y => ?_⟩
      · rw [e5] at y; exact absurd y.symm (nI_m1 (by omega))
      · exact fb_ct_pos.mpr ⟨i, hi, decide_eq_true y⟩
      · rw [v3 i hi] at y
        by_cases z : i = h
        · rw [aTell_s (by decide), z]; rfl
        · rw [if_neg z] at y; exact absurd y (by decide)
      · rw [aTell_p (by decide) (by decide) (by omega)] at y
        by_cases z : i = h
        · refine ⟨by rw [v3 i hi, if_pos z], by rw [e9, e6], T, Nat.le_refl T, ?_⟩
          rw [aTell_p (by decide) (by decide) (by omega), if_neg (by omega), if_neg (by omega), if_pos ⟨z, rfl⟩]
          exact hI.2.1.2.1
        · rw [if_neg (fun x => z x.1), if_neg (fun x => z x.1), if_neg (fun x => z x.1), if_neg (by decide)] at y
          exact absurd y (by decide)
      · rw [e10] at y; exact absurd y (by decide)
    · exact aPo_keep (Nat.le_refl T) er (os w 0 q) (fun f a b => op f i w a b q) (fun s _ y => ⟨by rw [op 3 s w (by decide) (by decide) q]; exact y, op 6 s w (by decide) (by decide) q⟩) (hO.2 i w hi (by omega))
theorem aOk_cor (hI : aInv A n m T) (hO : aOk A n m T) {h w : Nat} (hh : h < n) {body : Int32} (hI2 : aInv (aCo A h w body) n m T) (k4 : A 2 w 4 = -1) : aOk (aLearn (aCo A h w body) n h w) n m T := by
  have e : ∀ f i j, f ≠ 2 → aCo A h w body f i j = A f i j := fun f i j q => by unfold aCo; rw [aup_f q, aup_f q, aup_f q]
  have e0 : ∀ i, aCo A h w body 2 i 0 = A 2 i 0 := fun i => by unfold aCo; rw [aup_j (by decide), aup_j (by decide), aup_j (by decide)]
  have e4 : aCo A h w body 2 w 4 = nI h := by unfold aCo; rw [aup_j (by decide), aup_s]
  have e4n : ∀ i, i ≠ w → aCo A h w body 2 i 4 = A 2 i 4 := fun i q => by unfold aCo; rw [aup_i q, aup_i q, aup_i q]
  have er : ∀ s i, aRng (aCo A h w body) s i = aRng A s i := fun s i => aRng_cg (fun i j _ => e 1 i j (by decide)) s i
  -- as if it were not corrected: all but the corrector
  have P1 : ∀ i j, i < n → j < m → aPo (aCo A h w body) n T i j := fun i j hi hj => aPo_keep (Nat.le_refl T) er (e0 j) (fun f a b => e f i j (by omega)) (fun s _ q => ⟨by rw [e 3 _ _ (by decide)]; exact q, e 6 _ _ (by decide)⟩) (hO.2 i j hi hj)
  have L : ∀ f i j, f < 3 → aLearn (aCo A h w body) n h w f i j = aCo A h w body f i j := fun f i j q => by
    unfold aLearn
    split
    · rw [aup_f (by omega), aup_f (by omega)]
    · rw [aup_f (by omega), aup_f (by omega), aup_f (by omega), aup_f (by omega)]
  have L3 : ∀ f i j, f = 3 ∨ f = 5 → aLearn (aCo A h w body) n h w f i j = aCo A h w body f i j := fun f i j q => by
    unfold aLearn
    split
    · rw [aup_f (by omega), aup_f (by omega)]
    · rw [aup_f (by omega), aup_f (by omega), aup_f (by omega), aup_f (by omega)]
  have L4 : ∀ i j, aLearn (aCo A h w body) n h w 4 i j = aup (aCo A h w body) 4 h w 1 4 i j := fun i j => by
    unfold aLearn
    split
    · rw [aup_f (by decide)]
    · rw [aup_f (by decide), aup_f (by decide), aup_f (by decide)]
  -- a state that is Ok with the same pairs: the news w taken as corrected by h only behind the learning
  have key : aOk (aup (aCo A h w body) 2 w 4 (-1)) n m T := by
    have f2 : ∀ i, aup (aCo A h w body) 2 w 4 (-1) 2 i 0 = A 2 i 0 := fun i => by rw [aup_j (by decide), e0]
    have f4 : ∀ i, aup (aCo A h w body) 2 w 4 (-1) 2 i 4 = A 2 i 4 := fun i => by
      by_cases q : i = w
      · subst q; rw [aup_s, k4]
      · rw [aup_i q, e4n i q]
    exact aOk_cg hO (Nat.le_refl T) (fun s i => aRng_cg (fun i j _ => by rw [aup_f (by decide), e 1 i j (by decide)]) s i) (fun i => ⟨f2 i, f4 i⟩) (fun f i j a b => by rw [aup_f (by omega), e f i j (by omega)])
  have hI3 : aInv (aup (aCo A h w body) 2 w 4 (-1)) n m T := by
    refine ⟨zSz_cg (fun k _ => aup_f (by decide)) hI2.1, aSc_cg (fun k _ => aup_f (by decide)) hI2.2.1, fun i hi => aHf_cg (fun k _ => aup_f (by decide)) (hI2.2.2.1 i hi), fun j hj q i hi => ?_, fun i j hi hj => aPf_cg (fun f a b => aup_f (by omega)) (hI2.2.2.2.2 i j hi hj)⟩
    rw [aup_f (by decide), e 4 i j (by decide)]
    by_cases y : j = w
    · subst y; exact hI.2.2.2.1 j hj k4 i hi
    · rw [aup_i y, e4n j y] at q; exact hI.2.2.2.1 j hj q i hi
  have OL := aOk_learn hI3 key (w := w) (h := h)
  have same : ∀ f i j, ¬ (f = 2 ∧ i = w ∧ j = 4) → aLearn (aup (aCo A h w body) 2 w 4 (-1)) n h w f i j = aLearn (aCo A h w body) n h w f i j := fun f i j q => by
    have eo : aOws (aup (aup (aup (aCo A h w body) 2 w 4 (-1)) 4 h w 1) 7 h w 0) n h w = aOws (aup (aup (aCo A h w body) 4 h w 1) 7 h w 0) n h w :=
      aOws_cg (fun i _ => by simp [aup]) (fun i _ => by simp [aup])
    unfold aLearn
    rw [eo]
    split
    · simp only [aup, if_neg q]
    · have e8 : aup (aCo A h w body) 2 w 4 (-1) 0 8 0 = aCo A h w body 0 8 0 := aup_f (by decide)
      rw [e8]
      simp only [aup, if_neg q]
  refine ⟨fun j hj => ?_, fun i j hi hj => ?_⟩
  · obtain ⟨⟨a, ha, a1, a2, a3⟩, b⟩ := OL.1 j hj
    rw [same 2 j 0 (by omega)] at a1
    rw [same 3 a j (by omega)] at a2
    rw [same 5 a j (by omega)] at a3
    refine ⟨⟨a, ha, a1, a2, a3⟩, ?_⟩
    by_cases y : j = w
    · subst y
      exact Or.inr ⟨h, hh, by rw [L 2 j 4 (by decide)]; exact e4, by rw [L4, aup_s]⟩
    · rw [same 2 j 4 (by omega)] at b
      rcases b with b | ⟨k, hk, b1, b2⟩
      · exact Or.inl b
      · exact Or.inr ⟨k, hk, b1, by rw [same 4 k j (by omega)] at b2; exact b2⟩
  · exact aPo_keep (Nat.le_refl T) (fun s' h' => aRng_cg (fun i' j' _ => (same 1 i' j' (by omega)).symm) s' h') (same 2 j 0 (by omega)).symm (fun f a b => (same f i j (by omega)).symm) (fun s _ y => ⟨by rw [← same 3 s j (by omega)]; exact y, (same 6 s j (by omega)).symm⟩) (OL.2 i j hi hj)
end OK
