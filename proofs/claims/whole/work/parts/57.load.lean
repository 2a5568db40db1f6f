/-! load -/
def nil0 (i : Nat) : Int32 := if i < 5 then (zfv 0).getD i 0 else if i = 5 then 48 else if i = 9 then 1 else 0
/-- a village before anything is read; its counters as in C -/
def aNil (C : zAb) : zAb := fun f i j => if f = 13 then C f i j else if f = 0 ∧ j = 0 then nil0 i else 0
theorem aNil_0 {C : zAb} {k : Nat} : aNil C 0 k 0 = nil0 k := rfl
theorem aNil_f {C : zAb} {f i j : Nat} (h : 1 ≤ f) (h2 : f ≤ 12) : aNil C f i j = 0 := by
  unfold aNil
  rw [if_neg (by omega), if_neg (by omega)]
theorem aNil_13 {C : zAb} {i j : Nat} : aNil C 13 i j = C 13 i j := rfl
theorem aInv_nil {C : zAb} : aInv (aNil C) 0 0 0 :=
  ⟨⟨rfl, rfl, by decide, by decide⟩, ⟨⟨48, by decide, by decide, rfl⟩, rfl, by decide, ⟨1, by decide, rfl⟩, ⟨5, by decide, rfl⟩, ⟨1, by decide, rfl⟩, ⟨40, by decide, rfl⟩, ⟨10, by decide, rfl⟩, ⟨11, by decide, rfl⟩⟩, fun h hh => absurd hh (Nat.not_lt_zero h), fun w hw => absurd hw (Nat.not_lt_zero w), fun h w hh => absurd hh (Nat.not_lt_zero h)⟩
section JL
variable {σ : zSt} {K : Nat}
theorem r_fill {v o L : Nat} (hL : zrl (o + 1) = L) (h : L < 90000) (x : Int32) : zOk (F_Row_fill v o x σ) (fun s => (∀ i, i < L → s.1 v (o + 1) i = x) ∧ (∀ g o' i, ¬ (g = v ∧ o' = o + 1) → s.1 g o' i = σ.1 g o' i) ∧ s.2 = σ.2) := by
  rw [F_Row_fill, F_Arrays_fill, hL]
  have run : zOk (L_Arrays_fill v (o + 1) zK 0 x (0 : Int32) (Int32.ofNat L) σ) (fun s => (∀ i, i < L → s.1 v (o + 1) i = x) ∧ (∀ g o' i, ¬ (g = v ∧ o' = o + 1) → s.1 g o' i = σ.1 g o' i) ∧ s.2 = σ.2) := by
    refine z_loopC (fun j k st => L_Arrays_fill v (o + 1) j 0 x (nI k) (nI L) st) L 0 (fun k st => (∀ i, i < k → st.1 v (o + 1) i = x) ∧ (∀ g o' i, ¬ (g = v ∧ o' = o + 1) → st.1 g o' i = σ.1 g o' i) ∧ st.2 = σ.2) _ (fun k st hk hJ j kk => ?_) (fun st hJ j hj => ?_) zK σ (zK_lt (by omega)) ⟨fun i hi => absurd hi (Nat.not_lt_zero i), fun _ _ _ _ => rfl, rfl⟩
    · try dsimp only
      obtain ⟨j1, j2, j3⟩ := hJ
      rw [e_Arrays_fill_0, if_neg (nI_ge hk (by omega)), hL, if_pos (inb_n hk (by omega)), nI_clamp (by omega), nI_1]
      refine kk _ ⟨fun i hi => ?_, fun g o' i q => by rw [zst_at, if_neg (by omega)]; exact j2 g o' i q, j3⟩
      rw [zst_at]
      by_cases z : i = k
      · subst z; rw [if_pos ⟨rfl, rfl, rfl⟩]
      · rw [if_neg (by omega)]; exact j1 i (by omega)
    · try dsimp only
      rw [e_Arrays_fill_0, if_pos (nI_le0 (by omega))]
      exact ⟨_, rfl, hJ⟩
  exact zOk.bind run (fun s h => ⟨_, rfl, h⟩)
theorem x_clear {v : Nat} (C : zAb) : zOk (F_Village_clear v σ) (fun s => zfV v σ s ∧ zC s v (aNil C) 0 0 (0 - C 13 23 0) 0) := by
  rw [F_Village_clear]
  generalize hs0 : zst (zst (zst (zst σ v 0 0 (48 : Int32)) v 0 1 (0 : Int32)) v 0 2 (1 : Int32)) v 0 3 (0 : Int32) = s0
  have f0 : zfV v σ s0 := by
    rw [← hs0]
    exact (((zfV.st v _ _ _ _).tr (zfV.st v _ _ _ _)).tr (zfV.st v _ _ _ _)).tr (zfV.st v _ _ _ _)
  have e0 : s0.1 v 0 0 = 48 ∧ s0.1 v 0 1 = 0 ∧ s0.1 v 0 2 = 1 ∧ s0.1 v 0 3 = 0 := by rw [← hs0]; simp [zst_at]
  refine z_loopC (fun j k st => L_Village_clear v j 0 (nI k) st) 5 0 (fun k st => (∀ i, i < k → st.1 v 2 i = (zfv 0).getD i 0) ∧ (∀ o i, o ≠ 2 → st.1 v o i = s0.1 v o i) ∧ zfV v σ st) _ (fun k st hk hJ j kk => ?_) (fun st hJ j hj => ?_) zK s0 (zK_lt (by omega)) ⟨fun i hi => absurd hi (Nat.not_lt_zero i), fun _ _ _ => rfl, f0⟩
  · try dsimp only
    obtain ⟨j1, j2, j3⟩ := hJ
    rw [e_Village_clear_0, if_neg (show ¬ (5 : Int32) ≤ nI k from nI_ge (b := 5) hk (by decide))]
    refine zOk.eq (x_elem 0 hk st) (zOk.eq (r_put1 hk _) ?_)
    rw [nI_1]
    refine kk _ ⟨fun i hi => ?_, fun o i q => by rw [zst_at, if_neg (by omega)]; exact j2 o i q, j3.tr (zfV.st v st 2 k _)⟩
    rw [zst_at]
    by_cases z : i = k
    · subst z; rw [if_pos ⟨rfl, rfl, rfl⟩]
    · rw [if_neg (by omega)]; exact j1 i (by omega)
  · try dsimp only
    obtain ⟨j1, j2, j3⟩ := hJ
    rw [e_Village_clear_0, if_pos (show (5 : Int32) ≤ nI 5 by decide), F_Homes_clear, Option.bind_some, F_Tidings_clear, Option.bind_some]
    generalize hs1 : zst (zst st v 3 0 (0 : Int32)) v 24 0 (0 : Int32) = s1
    have f1 : zfV v σ s1 := by rw [← hs1]; exact (j3.tr (zfV.st v st 3 0 0)).tr (zfV.st v _ 24 0 0)
    have o1 : ∀ o i, o ≠ 3 → o ≠ 24 → s1.1 v o i = st.1 v o i := fun o i a b => by rw [← hs1, zst_at, if_neg (by omega), zst_at, if_neg (by omega)]
    have e3 : s1.1 v 3 0 = 0 ∧ s1.1 v 24 0 = 0 := by rw [← hs1]; simp [zst_at]
    rw [F_Entries_clear]
    refine zOk.bind (zOk.bind (r_fill (v := v) (o := 44) (L := 12) rfl (by decide) 0) (fun s2 h2 => ⟨_, rfl, h2⟩)) (fun s2 ⟨a1, a2, a3⟩ => ?_)
    rw [F_Entries_clear]
    refine zOk.bind (zOk.bind (r_fill (v := v) (o := 49) (L := 12) rfl (by decide) 0) (fun s3 h3 => ⟨_, rfl, h3⟩)) (fun s3 ⟨b1, b2, b3⟩ => ?_)
    rw [F_Journal_clear, Option.bind_some]
    have oo : ∀ o i, o ≠ 2 → o ≠ 3 → o ≠ 24 → o ≠ 45 → o ≠ 50 → s3.1 v o i = s0.1 v o i := fun o i q1 q2 q3 q4 q5 => by
      rw [b2 v o i (by omega), a2 v o i (by omega), o1 o i q2 q3, j2 o i q1]
    refine ⟨_, rfl, (f1.tr (⟨fun g o i q => by rw [b2 g o i (by omega), a2 g o i (by omega)], b3.trans a3⟩ : zfV v s1 s3)).tr (zfV.st v s3 59 0 0), ⟨⟨?_, ?_, ?_, ?_, ?_, ?_, fun k hk => ?_⟩, fun h hh => absurd hh (Nat.not_lt_zero h), fun w hw => absurd hw (Nat.not_lt_zero w), fun h hh => ⟨?_, ?_⟩, fun h w hh => absurd hh (Nat.not_lt_zero h), fun h w _ hw => absurd hw (Nat.not_lt_zero w)⟩, ⟨?_, fun s i k e hs hi his => ?_⟩, aInv_nil, fun h w hh => absurd hh (Nat.not_lt_zero h), 0, Nat.le_refl 0, rfl, rfl⟩
    · rw [zst_at, if_neg (by omega), oo 0 0 (by decide) (by decide) (by decide) (by decide) (by decide), e0.1]; rfl
    · rw [zst_at, if_neg (by omega), oo 0 1 (by decide) (by decide) (by decide) (by decide) (by decide), e0.2.1]; rfl
    · rw [zst_at, if_neg (by omega), oo 0 2 (by decide) (by decide) (by decide) (by decide) (by decide), e0.2.2.1]; rfl
    · rw [zst_at, if_neg (by omega), oo 0 3 (by decide) (by decide) (by decide) (by decide) (by decide), e0.2.2.2, aNil_13, Int32.add_comm, Int32.sub_add_cancel]
    · rw [zst_at, if_neg (by omega), b2 v 3 0 (by omega), a2 v 3 0 (by omega), e3.1]; rfl
    · rw [zst_at, if_neg (by omega), b2 v 24 0 (by omega), a2 v 24 0 (by omega), e3.2]; rfl
    · rw [zst_at, if_neg (by omega), b2 v 2 k (by omega), a2 v 2 k (by omega), o1 2 k (by decide) (by decide), j1 k hk, aNil_0]
      unfold nil0
      rw [if_pos hk]
    · rw [zst_at, if_neg (by omega), b2 v 45 h (by omega), a1 h hh]; rfl
    · rw [zst_at, if_neg (by omega), b1 h hh]; rfl
    · rw [zst_at, if_pos ⟨rfl, rfl, rfl⟩]; rfl
    · have e : nI 0 = nI s := e
      have := (nI_eq (by omega) (by omega)).mp e
      omega
def xB (σ : zSt) (l : Nat) : Nat → Nat := fun i => if i < l then (σ.1 4 74 i).toNatClampNeg else 0
theorem xB_ok {l : Nat} (h : zTb σ l) : (∀ i, xB σ l i < 256) ∧ ∀ i, i < l → σ.1 4 74 i = nI (xB σ l i) ∧ σ.1 4 89 i = nI (xB σ l i) := by
  obtain ⟨h1, h2, h3, h4⟩ := h
  refine ⟨fun i => ?_, fun i hi => ?_⟩
  · unfold xB
    by_cases q : i < l
    · obtain ⟨e, c, hc, ec⟩ := h4 i q
      rw [if_pos q, ec, nI_clamp (by omega)]
      exact hc
    · rw [if_neg q]; decide
  · obtain ⟨e, c, hc, ec⟩ := h4 i hi
    unfold xB
    rw [if_pos hi, e, ec, nI_clamp (by omega)]
    exact ⟨rfl, rfl⟩
theorem x_setup {b : Nat → Nat} {l : Nat} (hP : zPx σ b l) (C : zAb) : zOk (F_Reader_readSetup 1 σ) (xL b l (0 - C 13 23 0) σ (pAll b l (aNil C))) := by
  rw [F_Reader_readSetup]
  generalize hs0 : zst (zst σ 4 71 1 (0 : Int32)) 4 71 2 (-1 : Int32) = s0
  have f0 : xFr σ s0 := by
    rw [← hs0]
    exact ⟨fun g o i a q => by rw [zst_at, if_neg (by omega), zst_at, if_neg (by omega)], rfl⟩
  have e1 : s0.1 4 71 1 = 0 ∧ s0.1 4 71 2 = -1 := by rw [← hs0]; simp [zst_at]
  refine zOk.bind (x_clear C) (fun s1 ⟨f1, hC⟩ => ?_)
  rw [F_Text_rewind]
  have f1' := xFr.v f1
  have fr1 := f0.tr f1'
  have fr2 : xF s1 (zst s1 4 72 4 (0 : Int32)) := xF.st s1 (by decide) 0
  have hP2 := (hP.v fr1).fr fr2
  refine zOk.bind (zOk.bind (x_step hP2 (p := 0) (Nat.zero_le l) (by rw [zst_at, if_pos ⟨rfl, rfl, rfl⟩]; rfl)) (fun s h => ⟨_, rfl, h⟩)) (fun s2 ⟨hK, fr3⟩ => ?_)
  have frA := (fr1.tr (xFr.f fr2)).tr (xFr.f fr3)
  have ok : xOk b l (0 - C 13 23 0) σ s2 (aNil C) 0 0 0 := by
    refine ⟨frA, ?_, ?_, Nat.zero_le l, hP2.fr fr3, hK, zC_fr hC (fun o i => by rw [fr3.1 1 o i (by omega), fr2.1 1 o i (by omega)])⟩
    · rw [fr3.1 4 71 1 (by omega), fr2.1 4 71 1 (by omega), f1.1 4 71 1 (by decide), e1.1]
    · rw [fr3.1 4 71 2 (by omega), fr2.1 4 71 2 (by omega), f1.1 4 71 2 (by decide), e1.2]
  rw [x_word ok.2.2.2.2.1 (Nat.zero_le l) hK (i := 0) (by decide), Option.bind_some]
  unfold pAll
  by_cases w : tW b l 0 0 = true
  · rw [if_neg (bI_ne w), if_pos w]
    refine zOk.bind (x_adv ok) (fun s3 h3 => ?_)
    have k := x_num h3 (lo := 24) (hx := 241) (hi := 240) (by decide) (hi_of (hx := 241) (by decide) (by decide))
    have go : ∀ (r : pE ⊕ pS) (s : zSt), xR b l (0 - C 13 23 0) σ s r → zOk (L_Reader_readSetup 1 zK 0 (0 : Int32) s) (xL b l (0 - C 13 23 0) σ (eb r (pLoop b l 700))) := fun r s hr => by
      cases r with
      | inl e =>
        have hr : xE σ s e := hr
        show zOk (L_Reader_readSetup 1 (99999 + 1) 0 (0 : Int32) s) _
        rw [e_Reader_readSetup_0, if_neg (by decide), if_neg hr.ne, if_neg hr.ne]
        exact ⟨_, rfl, rfl, hr⟩
      | inr q => exact x_loop 700 0 zK q s (by omega) hr (zK_lt (by decide))
    cases e : pN b l (te b l 0) 24 241 with
    | inl er =>
      rw [e] at k
      refine zOk.bd2 k (fun r s hk => ?_)
      obtain ⟨rfl, he, hC2⟩ : r = nI 24 ∧ xE σ s er ∧ zC s 1 (aNil C) 0 0 (0 - C 13 23 0) 0 := hk
      have he2 := he.up (zfV.st 1 s 0 0 (nI 24))
      rw [x_semiE he2, Option.bind_some]
      exact go (.inl er) _ he2
    | inr w1 =>
      rw [e] at k
      refine zOk.bd2 k (fun r s hk => ?_)
      obtain ⟨rfl, b1, b2, h4⟩ : r = nI w1.1 ∧ 24 ≤ w1.1 ∧ w1.1 < 241 ∧ xOk b l (0 - C 13 23 0) σ s (aNil C) 0 0 w1.2 := hk
      have h5 := h4.up (zfV.st 1 s 0 0 (nI w1.1)) (zC_day h4.2.2.2.2.2.2 b1 (by omega))
      refine zOk.bind (x_semi h5) (fun s6 h6 => ?_)
      exact go _ s6 h6
  · rw [if_pos (bI_f (by simpa using w)), if_neg w]
    exact x_loop 700 0 zK (aNil C, 0, 0, 0) s2 (by omega) ok (zK_lt (by decide))
theorem m_clear {A : zAb} (hM : zMr σ A) (hKn : zKn σ) : zOk (F_Model_clear σ) (fun s => zMr s (aNil A) ∧ ∀ g o i, ¬ (g = 4 ∧ o = 81) → s.1 g o i = σ.1 g o i) := by
  rw [F_Model_clear]
  refine z_loopC (fun j k st => L_Model_clear j 0 (nI k) st) 2592 20 (fun k st => (∀ i, i < k → st.1 4 81 i = 0) ∧ ∀ g o i, ¬ (g = 4 ∧ o = 81) → st.1 g o i = σ.1 g o i) _ (fun k st hk hJ j kk => ?_) (fun st hJ j hj => ?_) zK σ (zK_lt (by omega)) ⟨fun i hi => absurd hi (Nat.not_lt_zero i), fun _ _ _ _ => rfl⟩
  · try dsimp only
    obtain ⟨j1, j2⟩ := hJ
    rw [e_Model_clear_0, if_neg (show ¬ (2592 : Int32) ≤ nI k from nI_ge (b := 2592) hk (by decide)), if_pos (inb_n hk (by decide)), nI_clamp (by omega), nI_1]
    refine kk _ ⟨fun i hi => ?_, fun g o i q => by rw [zst_at, if_neg (by omega)]; exact j2 g o i q⟩
    rw [zst_at]
    by_cases z : i = k
    · subst z; rw [if_pos ⟨rfl, rfl, rfl⟩]
    · rw [if_neg (by omega)]; exact j1 i (by omega)
  · try dsimp only
    obtain ⟨j1, j2⟩ := hJ
    rw [e_Model_clear_0, if_pos (show (2592 : Int32) ≤ nI 2592 by decide)]
    refine z_loopC (fun j k s => L_Model_clear j 1 (nI k) s) 5 0 (fun k s => (∀ i, i < 2592 → s.1 4 81 i = if i < k then (zfv 0).getD i 0 else 0) ∧ ∀ g o i, ¬ (g = 4 ∧ o = 81) → s.1 g o i = σ.1 g o i) _ (fun k s hk hJ j kk => ?_) (fun s hJ j hj => ?_) j st (by omega) ⟨fun i hi => by rw [if_neg (by omega)]; exact j1 i hi, j2⟩
    · try dsimp only
      obtain ⟨i1, i2⟩ := hJ
      have e86 : s.1 4 86 k = (zfv 0).getD k 0 := (i2 4 86 k (by omega)).trans (hKn k hk).1
      rw [e_Model_clear_1, if_neg (show ¬ (5 : Int32) ≤ nI k from nI_ge (b := 5) hk (by decide)), if_pos (inb_n hk (by decide)), if_pos (inb_n (show k < 2592 by omega) (by decide)), nI_clamp (by omega), e86, nI_1]
      refine kk _ ⟨fun i hi => ?_, fun g o i q => by rw [zst_at, if_neg (by omega)]; exact i2 g o i q⟩
      rw [zst_at]
      by_cases z : i = k
      · subst z; rw [if_pos ⟨rfl, rfl, rfl⟩, if_pos (by omega)]
      · rw [if_neg (by omega), i1 i hi]
        by_cases y : i < k
        · rw [if_pos y, if_pos (by omega)]
        · rw [if_neg y, if_neg (by omega)]
    · try dsimp only
      obtain ⟨i1, i2⟩ := hJ
      rw [e_Model_clear_1, if_pos (show (5 : Int32) ≤ nI 5 by decide)]
      generalize hs2 : zst (zst s 4 81 5 (48 : Int32)) 4 81 9 (1 : Int32) = s2
      have o2 : ∀ g o i, ¬ (g = 4 ∧ o = 81) → s2.1 g o i = σ.1 g o i := fun g o i q => by
        rw [← hs2, zst_at, if_neg (by omega), zst_at, if_neg (by omega)]; exact i2 g o i q
      have v2 : ∀ i, i < 2592 → s2.1 4 81 i = nil0 i := fun i hi => by
        rw [← hs2, zst_at]
        unfold nil0
        by_cases z9 : i = 9
        · subst z9; rw [if_pos ⟨rfl, rfl, rfl⟩, if_neg (by decide), if_neg (by decide), if_pos rfl]
        · rw [if_neg (by omega), zst_at]
          by_cases z5 : i = 5
          · subst z5; rw [if_pos ⟨rfl, rfl, rfl⟩, if_neg (by decide), if_pos rfl]
          · rw [if_neg (by omega), i1 i hi]
            by_cases y : i < 5
            · rw [if_pos y, if_pos y]
            · rw [if_neg y, if_neg y, if_neg z5, if_neg z9]
      have n0 : ∀ i, 12 ≤ i → nil0 i = 0 := fun i hi => by
        unfold nil0
        rw [if_neg (by omega), if_neg (by omega), if_neg (by omega)]
      refine ⟨_, rfl, ⟨⟨fun k hk => ?_, fun h k hh hk => ?_, fun w k hw hk => ?_, fun p h w hp hh hw => ?_, fun i k hi hk => ?_⟩, ?_, ?_, ?_⟩, o2⟩
      · rw [v2 k (by omega), aNil_0]
      · rw [v2 _ (by omega), n0 _ (by omega), aNil_f (by decide) (by decide)]
      · rw [v2 _ (by omega), n0 _ (by omega), aNil_f (by decide) (by decide)]
      · rw [v2 _ (by omega), n0 _ (by omega), aNil_f (by omega) (by omega)]
      · rw [v2 _ (by omega), n0 _ (by omega), aNil_f (by decide) (by decide)]
      · rw [o2 4 80 21 (by omega), aNil_13]; exact hM.2.1
      · rw [o2 4 80 22 (by omega), aNil_13]; exact hM.2.2.1
      · rw [o2 4 80 23 (by omega), aNil_13]; exact hM.2.2.2
/-- the reference's reading from the first token on; Q: what holds at its end -/
theorem m_setup {b : Nat → Nat} {l : Nat} {A : zAb} {Q : Int32 × zSt → Prop} (hP : zPm σ b l) (hM : zMr σ (aNil A)) (hKn : zKn σ) (h16 : σ.1 4 80 16 = 0) (h17 : σ.1 4 80 17 = -1) (h11 : σ.1 4 80 11 = nI 0) (kk : ∀ j' s', mR b l σ s' (pAll b l (aNil A)) → zOk (L_Model_load (j' + 1) 1 s') Q) : zOk ((F_Model_nextToken σ).bind fun σ6 => (F_Model_isWord 6 σ6).bind fun r8 => if r8 = 0 then L_Model_load zK 0 σ6 else ((F_Model_advance σ6).bind fun σ10 => bd2 (F_Model_parseNumber (24 : Int32) (240 : Int32) σ10) fun r12 σ13 => (F_Model_parseEnd (zst σ13 4 81 5 r12)).bind fun σ15 => L_Model_load zK 0 σ15)) Q := by
  refine zOk.bind (m_next hP (p := 0) (Nat.zero_le l) h11) (fun s1 ⟨hK, f1⟩ => ?_)
  have ok : mOk b l σ s1 (aNil A) 0 0 0 := ⟨mFr.f f1, (f1 4 80 16 (by omega)).trans h16, (f1 4 80 17 (by omega)).trans h17, Nat.zero_le l, hP.fr f1, hK, hM.f f1, aInv_nil⟩
  rw [show F_Model_isWord 6 s1 = some (bI (tW b l 0 0)) from m_word (Nat.zero_le l) hP.1 hP.2.1 hK (i := 0) (by decide), Option.bind_some]
  unfold pAll at kk
  by_cases w : tW b l 0 0 = true
  · rw [if_neg (bI_ne w)]
    rw [if_pos w] at kk
    have go : ∀ (r : pE ⊕ pS) (s : zSt), mR b l σ s r → (∀ q, r = .inr q → 0 ≤ q.2.2.2) → (∀ j' s', mR b l σ s' (eb r (pLoop b l 700)) → zOk (L_Model_load (j' + 1) 1 s') Q) → zOk (L_Model_load zK 0 s) Q := fun r s hr _ k2 => by
      cases r with
      | inl e =>
        have hr : mE σ s e := hr
        show zOk (L_Model_load (99998 + 1 + 1) 0 s) Q
        rw [e_Model_load_0, m_fineE hr.ne, Option.bind_some, if_pos rfl]
        exact k2 99998 s hr
      | inr q => exact m_loop hKn 700 0 zK q s (by omega) (Nat.zero_le _) hr (zK_lt (by decide)) k2
    refine zOk.bind (m_adv ok) (fun s3 h3 => ?_)
    have k := m_num h3 (lo := 24) (hx := 241) (hi := 240) (by decide) (by decide) (hi_of (hx := 241) (by decide) (by decide))
    cases e : pN b l (te b l 0) 24 241 with
    | inl er =>
      rw [e] at k kk
      refine zOk.bd2 k (fun r s he => ?_)
      have he : mE σ s er := he
      have he2 : mE σ (zst s 4 81 5 r) er := ⟨he.1.tr (fun g o i q => by rw [zst_at, if_neg (by omega)]), by rw [zst_at, if_neg (by omega)]; exact he.2.1, he.2.2.1, he.2.2.2.1, by rw [zst_at, if_neg (by omega)]; exact he.2.2.2.2⟩
      rw [m_endE he2, Option.bind_some]
      exact go (.inl er) _ he2 (fun q z => by cases z) kk
    | inr w1 =>
      rw [e] at k kk
      refine zOk.bd2 k (fun r s hk => ?_)
      obtain ⟨rfl, b1, b2, h4⟩ : r = nI w1.1 ∧ 24 ≤ w1.1 ∧ w1.1 < 241 ∧ mOk b l σ s (aNil A) 0 0 w1.2 := hk
      have h5 := h4.up (zfM.a81 s 5 (nI w1.1)) (h4.2.2.2.2.2.2.1.ps (by decide) _) (aInv_day h4.2.2.2.2.2.2.2 b1 (by omega))
      refine zOk.bind (m_end h5) (fun s6 h6 => ?_)
      exact go _ s6 h6 (fun q _ => Nat.zero_le _) kk
  · rw [if_pos (bI_f (by simpa using w))]
    rw [if_neg w] at kk
    exact m_loop hKn 700 0 zK (aNil A, 0, 0, 0) s1 (by omega) (Nat.le_refl 0) ok (zK_lt (by decide)) kk
theorem j_load (J : zJ σ K) : zR0 K (F_Waves_load σ) F_Model_load := by
  obtain ⟨A, n, m, c, T, hT, hC, hM, hp⟩ := id J
  obtain ⟨hSv, ⟨⟨l, hT0⟩, hc1, hc2⟩, hKn⟩ := hp
  obtain ⟨xb1, xb2⟩ := xB_ok hT0
  obtain ⟨t1, t2, t3, t4⟩ := hT0
  generalize xB σ l = b at *
  have hPx : zPx σ b l := ⟨t1, xb1, t2, fun i hi => (xb2 i hi).1⟩
  obtain ⟨⟨r1, s1⟩, e1, k1⟩ := x_setup hPx A
  -- the class's end: either the draft is taken or nothing has changed
  have X : ∃ (r : Int32) (σ1 : zSt), F_Waves_load σ = some (r, σ1) ∧ (∀ g o i, g ≠ 0 → g ≠ 1 → ¬ (g = 4 ∧ ((o = 71 ∧ (i = 1 ∨ i = 2)) ∨ (o = 72 ∧ 1 ≤ i))) → σ1.1 g o i = σ.1 g o i) ∧ σ1.1 4 72 1 = 0 ∧
      (match pAll b l (aNil A) with
        | .inl e => r = -1 ∧ zC σ1 0 A n m c T ∧ σ1.1 4 71 1 = nI e.1 ∧ σ1.1 4 71 2 = nI e.2
        | .inr q => r = nI q.2.1 ∧ zC σ1 0 q.1 q.2.1 q.2.2.1 (0 - A 13 23 0) 0 ∧ σ1.1 4 71 1 = 0 ∧ σ1.1 4 71 2 = -1) := by
    rw [F_Waves_load, e1, bd2_some]
    unfold xL at k1
    cases e : pAll b l (aNil A) with
    | inl er =>
      rw [e] at k1
      obtain ⟨g1, g2⟩ := k1
      have g1 : r1 = 0 := g1
      have g2 : xE σ s1 er := g2
      subst g1
      rw [if_pos rfl]
      refine ⟨_, _, rfl, fun g o i a d q => ?_, by rw [zst_at, if_pos ⟨rfl, rfl, rfl⟩], rfl, zC_fr hC (fun o i => ?_), ?_, ?_⟩
      · rw [zst_at, if_neg (by omega)]; exact g2.1.1 g o i d (by omega)
      · rw [zst_at, if_neg (by omega)]; exact g2.1.1 0 o i (by decide) (by omega)
      · rw [zst_at, if_neg (by omega)]; exact g2.2.1
      · rw [zst_at, if_neg (by omega)]; exact g2.2.2.2.2
    | inr q =>
      rw [e] at k1
      obtain ⟨g1, g2⟩ := k1
      have g1 : r1 = 1 := g1
      have g2 : xOk b l (0 - A 13 23 0) σ s1 q.1 q.2.1 q.2.2.1 q.2.2.2 := g2
      subst g1
      rw [if_neg (by decide)]
      obtain ⟨s2, e2, h2⟩ := c_copyFrom (σ := zst s1 4 72 1 (0 : Int32)) (v := 0) (v2 := 1) (by decide)
      have hC2 := zC_copy (zC_fr g2.2.2.2.2.2.2 (σ' := zst s1 4 72 1 (0 : Int32)) (fun o i => by rw [zst_at, if_neg (by omega)])) h2
      rw [e2, Option.bind_some]
      have os : ∀ g o i, g ≠ 0 → s2.1 g o i = (zst s1 4 72 1 (0 : Int32)).1 g o i := h2.2.1
      refine ⟨_, s2, rfl, fun g o i a d y => ?_, ?_, ?_, hC2, ?_, ?_⟩
      · rw [os g o i a, zst_at, if_neg (by omega)]; exact g2.1.1 g o i d (by omega)
      · rw [os 4 72 1 (by decide), zst_at, if_pos ⟨rfl, rfl, rfl⟩]
      · exact hC2.1.1.2.2.2.2.1
      · rw [os 4 71 1 (by decide), zst_at, if_neg (by omega)]; exact g2.2.1
      · rw [os 4 71 2 (by decide), zst_at, if_neg (by omega)]; exact g2.2.2.1
  obtain ⟨r, σ1, eX, fx, x72, res⟩ := X
  refine ⟨(r, σ1), eX, ?_⟩
  show zOk (F_Model_load σ1) _
  have hM1 : zMr σ1 A := hM.same (fun i => fx 4 81 i (by decide) (by decide) (by omega)) (fun i _ => fx 4 80 i (by decide) (by decide) (by omega))
  rw [F_Model_load]
  refine zOk.bind (m_copy (σ := zst σ1 4 80 8 (0 : Int32)) (o := 81) (o4 := 82) (a := 0) (b := 0) (by decide) (by decide) (by decide) (by decide) (by decide)) (fun s2 ⟨c1, c2, c3⟩ => ?_)
  have c1 : ∀ i, i < 2592 → s2.1 4 82 i = σ1.1 4 81 i := fun i hi => by
    have := c1 i hi
    rw [Nat.zero_add] at this
    rw [this, zst_at, if_neg (by omega)]
  have o2 : ∀ g o i, ¬ (g = 4 ∧ (o = 82 ∨ (o = 80 ∧ i = 8))) → s2.1 g o i = σ1.1 g o i := fun g o i q => by rw [c2 g o i (by omega), zst_at, if_neg (by omega)]
  have hM2 : zMr s2 A := hM1.same (fun i => o2 4 81 i (by omega)) (fun i _ => o2 4 80 i (by omega))
  have hKn2 : zKn s2 := fun i hi => by
    rw [o2 4 86 i (by omega), o2 4 87 i (by omega), o2 4 88 i (by omega), fx 4 86 i (by decide) (by decide) (by omega), fx 4 87 i (by decide) (by decide) (by omega), fx 4 88 i (by decide) (by decide) (by omega)]
    exact hKn i hi
  refine zOk.bind (m_clear hM2 hKn2) (fun s3 ⟨hM3, o3⟩ => ?_)
  generalize hs4 : zst (zst (zst s3 4 80 16 (0 : Int32)) 4 80 17 (-1 : Int32)) 4 80 11 (0 : Int32) = s4
  have o4 : ∀ g o i, ¬ (g = 4 ∧ o = 80 ∧ (i = 16 ∨ i = 17 ∨ i = 11)) → s4.1 g o i = s3.1 g o i := fun g o i q => by
    rw [← hs4, zst_at, if_neg (by omega), zst_at, if_neg (by omega), zst_at, if_neg (by omega)]
  have oA : ∀ g o i, ¬ (g = 4 ∧ (o = 80 ∨ o = 81 ∨ o = 82)) → s4.1 g o i = σ1.1 g o i := fun g o i q => by
    rw [o4 g o i (by omega), o3 g o i (by omega), o2 g o i (by omega)]
  have hM4 : zMr s4 (aNil A) := hM3.same (fun i => o4 4 81 i (by omega)) (fun i _ => o4 4 80 i (by omega))
  have hKn4 : zKn s4 := fun i hi => by
    rw [o4 4 86 i (by omega), o4 4 87 i (by omega), o4 4 88 i (by omega), o3 4 86 i (by omega), o3 4 87 i (by omega), o3 4 88 i (by omega)]
    exact hKn2 i hi
  have hPm : zPm s4 b l := by
    refine ⟨t1, xb1, ?_, fun i hi => ?_⟩
    · rw [o4 4 80 10 (by omega), o3 4 80 10 (by omega), o2 4 80 10 (by omega), fx 4 80 10 (by decide) (by decide) (by omega)]; exact t3
    · rw [oA 4 89 i (by omega), fx 4 89 i (by decide) (by decide) (by omega)]; exact (xb2 i hi).2
  have e16 : s4.1 4 80 16 = 0 := by rw [← hs4, zst_at, if_neg (by omega), zst_at, if_neg (by omega), zst_at, if_pos ⟨rfl, rfl, rfl⟩]
  have e17 : s4.1 4 80 17 = -1 := by rw [← hs4, zst_at, if_neg (by omega), zst_at, if_pos ⟨rfl, rfl, rfl⟩]
  have e11 : s4.1 4 80 11 = nI 0 := by rw [← hs4, zst_at, if_pos ⟨rfl, rfl, rfl⟩]; rfl
  have s82 : ∀ i, i < 2592 → s4.1 4 82 i = σ.1 4 81 i := fun i hi => by
    rw [o4 4 82 i (by omega), o3 4 82 i (by omega), c1 i hi, fx 4 81 i (by decide) (by decide) (by omega)]
  refine m_setup hPm hM4 hKn4 e16 e17 e11 (fun j' s5 h5 => ?_)
  rw [e_Model_load_1]
  -- all at the end
  have fin : ∀ (s6 : zSt) (A' : zAb) (n' m' T' : Nat) (c' : Int32), T' ≤ K → zC σ1 0 A' n' m' c' T' → zMr s6 A' → (∀ g o i, ¬ (g = 4 ∧ (o = 80 ∨ o = 81 ∨ o = 82 ∨ o = 90)) → s6.1 g o i = σ1.1 g o i) → s6.1 4 80 10 = 0 → s6.1 4 80 16 = σ1.1 4 71 1 → s6.1 4 80 17 = σ1.1 4 71 2 → zJ s6 K := fun s6 A' n' m' T' c' a1 a2 a3 a4 a5 a6 a7 => by
    have os : ∀ g o i, g ≠ 0 → g ≠ 1 → ¬ (g = 4 ∧ (o = 71 ∨ o = 72 ∨ o = 80 ∨ o = 81 ∨ o = 82 ∨ o = 90)) → s6.1 g o i = σ.1 g o i := fun g o i x y z => by rw [a4 g o i (by omega), fx g o i x y (by omega)]
    refine ⟨A', n', m', c', T', a1, zC_fr a2 (fun o i => a4 0 o i (by omega)), a3, hSv.fr (Nat.le_refl K) (os 4 70 4 (by decide) (by decide) (by omega)) (fun i => os 4 85 i (by decide) (by decide) (by omega)) (fun i => os 4 84 i (by decide) (by decide) (by omega)) (fun g o i q => os g o i (by omega) (by omega) (by omega)), ⟨⟨0, by decide, ?_, a5, fun i hi => absurd hi (Nat.not_lt_zero i)⟩, ?_, ?_⟩, fun i hi => ?_⟩
    · rw [a4 4 72 1 (by omega)]; exact x72
    · rw [a6, a4 4 71 1 (by omega)]
    · rw [a7, a4 4 71 2 (by omega)]
    · rw [os 4 86 i (by decide) (by decide) (by omega), os 4 87 i (by decide) (by decide) (by omega), os 4 88 i (by decide) (by decide) (by omega)]
      exact hKn i hi
  cases e : pAll b l (aNil A) with
  | inl er =>
    rw [e] at res h5
    obtain ⟨rfl, q2, q3, q4⟩ := res
    have h5 : mE s4 s5 er := h5
    have ne2 : ¬ (zst s5 4 80 10 (0 : Int32)).1 4 80 16 = 0 := by rw [zst_at, if_neg (by omega)]; exact h5.ne
    rw [m_fineE ne2, Option.bind_some, if_pos rfl]
    refine zOk.bind (m_copy (σ := zst s5 4 80 10 (0 : Int32)) (o := 82) (o4 := 81) (a := 0) (b := 0) (by decide) (by decide) (by decide) (by decide) (by decide)) (fun s6 ⟨d1, d2, d3⟩ => ⟨_, rfl, ?_, rfl⟩)
    have o5 : ∀ g o i, ¬ (g = 4 ∧ (o = 80 ∨ o = 81 ∨ o = 90)) → s5.1 g o i = s4.1 g o i := fun g o i q => h5.1 g o i (by omega)
    have o6 : ∀ g o i, ¬ (g = 4 ∧ (o = 81 ∨ (o = 80 ∧ i = 10))) → s6.1 g o i = s5.1 g o i := fun g o i q => by rw [d2 g o i (by omega), zst_at, if_neg (by omega)]
    have v81 : ∀ i, i < 2592 → s6.1 4 81 i = σ.1 4 81 i := fun i hi => by
      have := d1 i hi
      rw [Nat.zero_add] at this
      rw [this, zst_at, if_neg (by omega), o5 4 82 i (by omega), s82 i hi]
    refine fin s6 (aW A (fun _ i _ => s6.1 4 80 i)) n m T _ hT (zC_aW q2) ⟨zMo_aW (zMo_fr hM.1 v81), by rw [aW_13], by rw [aW_13], by rw [aW_13]⟩ (fun g o i q => ?_) ?_ ?_ ?_
    · rw [o6 g o i (by omega), o5 g o i (by omega), oA g o i (by omega)]
    · rw [d2 4 80 10 (by omega), zst_at, if_pos ⟨rfl, rfl, rfl⟩]
    · rw [o6 4 80 16 (by omega), h5.2.1, q3]
    · rw [o6 4 80 17 (by omega), h5.2.2.2.2, q4]
  | inr q =>
    rw [e] at res h5
    obtain ⟨rfl, q2, q3, q4⟩ := res
    have h5 : mOk b l s4 s5 q.1 q.2.1 q.2.2.1 q.2.2.2 := h5
    have f2 : (zst s5 4 80 10 (0 : Int32)).1 4 80 16 = 0 := by rw [zst_at, if_neg (by omega)]; exact h5.2.1
    rw [m_fine1 f2, Option.bind_some, if_neg (by decide)]
    have hM6 : zMr (zst s5 4 80 10 (0 : Int32)) q.1 := h5.2.2.2.2.2.2.1.q20 (by decide) _
    refine ⟨_, rfl, fin _ q.1 q.2.1 q.2.2.1 0 _ (Nat.zero_le K) q2 hM6 (fun g o i y => ?_) (by rw [zst_at, if_pos ⟨rfl, rfl, rfl⟩]) ?_ ?_, ?_⟩
    · rw [zst_at, if_neg (by omega), h5.1 g o i (by omega), oA g o i (by omega)]
    · rw [f2, q3]
    · rw [zst_at, if_neg (by omega), h5.2.2.1, q4]
    · show nI q.2.1 = (zst s5 4 80 10 (0 : Int32)).1 4 81 6
      rw [hM6.sc (by decide)]
      exact h5.2.2.2.2.2.2.2.1.1.symm
end JL
