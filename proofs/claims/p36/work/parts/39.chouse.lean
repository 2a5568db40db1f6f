/-! a house is built; a correction begins -/
section CH
variable {σ : zSt} {A : zAb} {n m T v : Nat} {c : Int32}
theorem aHo_at {x y r b s : Int32} {f i j : Nat} (q : f = 2 ∨ 12 ≤ f ∨ (f = 0 ∧ i ≠ 6) ∨ (f ≠ 0 ∧ i ≠ n)) : aHouse A n x y r b s f i j = A f i j := by
  rw [aHouse, if_neg (by omega), if_neg (by omega), if_neg (by omega)]
theorem aHo_h {x y r b s : Int32} {j : Nat} (hj : j < 10) : aHouse A n x y r b s 1 n j = aHv x y r b s j := by
  rw [aHouse, if_pos ⟨rfl, rfl, hj⟩]
theorem aHo_p {x y r b s : Int32} {f w : Nat} (h3 : 3 ≤ f) (h11 : f ≤ 11) (hw : w < 20) : aHouse A n x y r b s f n w = if f = 5 then -1 else 0 := by
  rw [aHouse, if_neg (by omega), if_pos ⟨h3, h11, rfl, hw⟩]
theorem aHo_6 {x y r b s : Int32} : aHouse A n x y r b s 0 6 0 = nI (n + 1) := by
  rw [aHouse, if_neg (by omega), if_neg (by omega), if_pos ⟨rfl, rfl, rfl⟩]
theorem aOws_ho (hI : aInv A n m T) {x y r b s : Int32} {h w : Nat} (hh : h < n) (hw : w < m) : aOws (aHouse A n x y r b s) (n + 1) h w = aOws A n h w := by
  have hn := hI.1.2.2.1
  have hm := hI.1.2.2.2
  unfold aOws
  have e5 : ∀ i, i ≠ n → aHouse A n x y r b s 5 i w = A 5 i w := fun i q => aHo_at (by omega)
  have e4 : ∀ i, i ≠ n → aHouse A n x y r b s 4 i w = A 4 i w := fun i q => aHo_at (by omega)
  have z : aOw (aHouse A n x y r b s) h n w = false := by
    unfold aOw
    rw [e5 h (by omega), aHo_p (by decide) (by decide) (by omega), aLk_lt hI hh hw (Nat.le_refl n) (by omega)]
    have a2 : ¬ (-1 : Int32) = nI h := fun z => oI_ne (e := h) (by omega) z.symm
    simp [a2]
  rw [zm_s0 (P := fun o => aOw (aHouse A n x y r b s) h o w) z]
  refine zm_congr (fun i hi => ?_)
  unfold aOw
  rw [e5 h (by omega), e5 i (by omega), e4 h (by omega), e4 i (by omega)]
theorem aInv_house (hI : aInv A n m T) (hn12 : n < 12) {x y r b s : Nat} (hx : x ≤ 99) (hy : y ≤ 99) (hr : r ≤ 150) (hb : b ≤ 999) (hs : 1 ≤ s ∧ s ≤ 9) : aInv (aHouse A n (nI x) (nI y) (nI r) (nI b) (nI s)) (n + 1) m T := by
  obtain ⟨i1, i2, i3, i4, i5⟩ := hI
  have hm := i1.2.2.2
  have o0 : ∀ k, k ≠ 6 → aHouse A n (nI x) (nI y) (nI r) (nI b) (nI s) 0 k 0 = A 0 k 0 := fun k a => aHo_at (by omega)
  refine ⟨⟨aHo_6, (o0 7 (by decide)).trans i1.2.1, by omega, hm⟩, ?_, fun h hh => ?_, fun w hw q h hh => ?_, fun h w hh hw => ?_⟩
  · unfold aSc at *
    rw [o0 5 (by decide), o0 8 (by decide), o0 9 (by decide), o0 0 (by decide), o0 1 (by decide), o0 2 (by decide), o0 3 (by decide), o0 4 (by decide)]
    exact i2
  · by_cases z : h = n
    · subst z
      unfold aHf
      rw [aHo_h (by decide), aHo_h (by decide), aHo_h (by decide), aHo_h (by decide), aHo_h (by decide)]
      exact ⟨⟨x, hx, rfl⟩, ⟨y, hy, rfl⟩, ⟨r, hr, rfl⟩, ⟨b, hb, rfl⟩, ⟨s, hs.1, hs.2, rfl⟩⟩
    · exact aHf_cg (fun k _ => aHo_at (by omega)) (i3 h (by omega))
  · rw [aHo_at (by omega)] at q
    by_cases z : h = n
    · subst z
      rw [aHo_p (by decide) (by decide) (by omega)]; simp
    · rw [aHo_at (by omega)]
      exact i4 w hw q h (by omega)
  · by_cases z : h = n
    · subst z
      unfold aPf
      rw [aHo_p (by decide) (by decide) (by omega), aHo_p (by decide) (by decide) (by omega), aHo_p (by decide) (by decide) (by omega), aHo_p (by decide) (by decide) (by omega), aHo_p (by decide) (by decide) (by omega), aHo_p (by decide) (by decide) (by omega), aHo_p (by decide) (by decide) (by omega), aHo_p (by decide) (by decide) (by omega), aHo_p (by decide) (by decide) (by omega)]
      simp
      exact ⟨⟨0, by omega, rfl⟩, ⟨0, by omega, rfl⟩, ⟨0, by omega, rfl⟩, ⟨0, by omega, rfl⟩⟩
    · have p : aPf (aHouse A n (nI x) (nI y) (nI r) (nI b) (nI s)) n T h w := aPf_cg (fun f a b => aHo_at (by omega)) (i5 h w (by omega) hw)
      obtain ⟨p1, p2, p3, p4, p5, p6⟩ := p
      refine ⟨p1, p2, p3, p4, ?_, p6⟩
      rcases p5 with q | ⟨o, q1, q2⟩
      · exact Or.inl q
      · exact Or.inr ⟨o, by omega, q2⟩
theorem aDue_house (hI : aInv A n m T) (hD : aDue A n m) {x y r b s : Int32} : aDue (aHouse A n x y r b s) (n + 1) m := fun h w hh hw q => by
  have hm := hI.1.2.2.2
  by_cases z : h = n
  · subst z
    rw [aHo_p (by decide) (by decide) (by omega)] at q
    simp at q
  · rw [aOws_ho hI (by omega) hw]
    exact hD h w (by omega) hw (by rw [← aHo_at (A := A) (n := n) (x := x) (y := y) (r := r) (b := b) (s := s) (f := 10) (i := h) (j := w) (by omega)]; exact q)
theorem c_addHouse (hC : zC σ v A n m c T) (hn12 : n < 12) {x y r b s : Nat} (hx : x ≤ 99) (hy : y ≤ 99) (hr : r ≤ 150) (hb : b ≤ 999) (hs : 1 ≤ s ∧ s ≤ 9) : zOk (F_Homes_add v (nI x) (nI y) (nI r) (nI b) (nI s) σ) (fun q => q.1 = nI n ∧ zC q.2 v (aHouse A n (nI x) (nI y) (nI r) (nI b) (nI s)) (n + 1) m c T ∧ zfV v σ q.2) := by
  obtain ⟨⟨r1, r2, r3, r4, r5, r6⟩, r7, hI, hD, hL⟩ := hC
  have hm := hI.1.2.2.2
  obtain ⟨h1, h2, h3, h4, h5, h6, h7⟩ := r1
  generalize hA' : aHouse A n (nI x) (nI y) (nI r) (nI b) (nI s) = A'
  have at' : ∀ f i j, (f = 2 ∨ 12 ≤ f ∨ (f = 0 ∧ i ≠ 6) ∨ (f ≠ 0 ∧ i ≠ n)) → A' f i j = A f i j := fun f i j q => by rw [← hA']; exact aHo_at q
  have ah' : ∀ j, j < 10 → A' 1 n j = aHv (nI x) (nI y) (nI r) (nI b) (nI s) j := fun j q => by rw [← hA']; exact aHo_h q
  have ap' : ∀ f w, 3 ≤ f → f ≤ 11 → w < 20 → A' f n w = if f = 5 then -1 else 0 := fun f w a b c => by rw [← hA']; exact aHo_p a b c
  rw [F_Homes_add, h5]
  refine zOk.eq (r_put4 hn12 _) (zOk.eq (r_put6 hn12 _) (zOk.eq (r_put8 hn12 _) (zOk.eq (r_put10 hn12 _) (zOk.eq (r_put12 hn12 _) (zOk.eq (r_put14 hn12 _) (zOk.eq (r_put16 hn12 _) (zOk.eq (r_put18 hn12 _) (zOk.eq (r_put20 hn12 _) (zOk.eq (r_put22 hn12 _) ?_)))))))))
  generalize hs1 : zst (zst (zst (zst (zst (zst (zst (zst (zst (zst σ v 5 n (nI x)) v 7 n (nI y)) v 9 n (nI r)) v 11 n (nI b)) v 13 n (nI s)) v 15 n (-1)) v 17 n (-1)) v 19 n 0) v 21 n 0) v 23 n 0 = s1
  have f1 : zfV v σ s1 := by
    rw [← hs1]
    exact (((((((((zfV.st v _ _ _ _).tr (zfV.st v _ _ _ _)).tr (zfV.st v _ _ _ _)).tr (zfV.st v _ _ _ _)).tr (zfV.st v _ _ _ _)).tr (zfV.st v _ _ _ _)).tr (zfV.st v _ _ _ _)).tr (zfV.st v _ _ _ _)).tr (zfV.st v _ _ _ _)).tr (zfV.st v _ _ _ _)
  have e1 : ∀ o i, ¬ (5 ≤ o ∧ o ≤ 23) ∨ i ≠ n → s1.1 v o i = σ.1 v o i := fun o i a => by
    rw [← hs1, zst_at, if_neg (by omega), zst_at, if_neg (by omega), zst_at, if_neg (by omega), zst_at, if_neg (by omega), zst_at, if_neg (by omega), zst_at, if_neg (by omega), zst_at, if_neg (by omega), zst_at, if_neg (by omega), zst_at, if_neg (by omega), zst_at, if_neg (by omega)]
  have e1n : s1.1 v 5 n = nI x ∧ s1.1 v 7 n = nI y ∧ s1.1 v 9 n = nI r ∧ s1.1 v 11 n = nI b ∧ s1.1 v 13 n = nI s ∧ s1.1 v 15 n = -1 ∧ s1.1 v 17 n = -1 ∧ s1.1 v 19 n = 0 ∧ s1.1 v 21 n = 0 ∧ s1.1 v 23 n = 0 := by
    rw [← hs1]; simp [zst_at]
  clear hs1
  -- places and ranges, of all n + 1 houses
  have pl : ∀ h, h < n + 1 → s1.1 v 5 h = A' 1 h 0 ∧ s1.1 v 7 h = A' 1 h 1 ∧ s1.1 v 9 h = A' 1 h 2 := fun h hh => by
    by_cases z : h = n
    · subst z
      rw [e1n.1, e1n.2.1, e1n.2.2.1, ah' 0 (by decide), ah' 1 (by decide), ah' 2 (by decide)]
      exact ⟨rfl, rfl, rfl⟩
    · obtain ⟨g1, g2, g3, -⟩ := r2 h (by omega)
      rw [e1 5 h (Or.inr z), e1 7 h (Or.inr z), e1 9 h (Or.inr z), at' 1 h 0 (by omega), at' 1 h 1 (by omega), at' 1 h 2 (by omega)]
      exact ⟨g1, g2, g3⟩
  have note : ∀ (st : zSt) (p q : Nat), p < n + 1 → q < n + 1 → p ≠ q → (∀ o i, o ≠ 23 → st.1 v o i = s1.1 v o i) → F_Homes_noteRange v (nI p) (nI q) st = some (if aRng A' p q = true then zst st v 23 p (st.1 v 23 p ||| ((1 : Int32) <<< (nI q &&& 31))) else st) := by
    intro st p q hp hq hne hst
    obtain ⟨g1, g2, g3⟩ := pl p hp
    obtain ⟨k1, k2, k3⟩ := pl q hq
    rw [F_Homes_noteRange, F_Homes_distance, r_get4 (by omega), r_get4 (by omega), r_get6 (by omega), r_get6 (by omega), r_get8 (by omega), hst 5 p (by decide), hst 5 q (by decide), hst 7 p (by decide), hst 7 q (by decide), hst 9 p (by decide), g1, g2, g3, k1, k2]
    simp only [Option.bind_some]
    unfold aRng aDist
    by_cases z : A' 1 p 2 * A' 1 p 2 < (A' 1 p 0 - A' 1 q 0) * (A' 1 p 0 - A' 1 q 0) + (A' 1 p 1 - A' 1 q 1) * (A' 1 p 1 - A' 1 q 1)
    · rw [if_pos z]; simp [z]
    · rw [if_neg z, r_join22 (by omega), Option.bind_some]; simp [z, hne]
  refine z_loopC (fun j k st => L_Homes_add v j 0 (nI n) (nI k) st) n 0 (fun k st => st.1 v 23 n = zm (aRng A' n) k ∧ (∀ i, i < n → st.1 v 23 i = if i < k ∧ aRng A' i n = true then σ.1 v 23 i ||| ((1 : Int32) <<< (nI n &&& 31)) else σ.1 v 23 i) ∧ (∀ o i, o ≠ 23 → st.1 v o i = s1.1 v o i) ∧ zfV v s1 st) _ (fun k st hk hJ j kk => ?_) (fun st hJ j hj => ?_) zK s1 (zK_lt (by omega)) ⟨e1n.2.2.2.2.2.2.2.2.2, fun i hi => by rw [if_neg (by omega), e1 23 i (Or.inr (by omega))], fun _ _ _ => rfl, zfV.rf v s1⟩
  · try dsimp only
    obtain ⟨j1, j2, j3, j4⟩ := hJ
    rw [e_Homes_add_0, if_neg (nI_ge hk (by omega))]
    refine zOk.eq (note st n k (by omega) (by omega) (by omega) j3) ?_
    have a1 : ∀ o i, o ≠ 23 → (if aRng A' n k = true then zst st v 23 n (st.1 v 23 n ||| ((1 : Int32) <<< (nI k &&& 31))) else st).1 v o i = s1.1 v o i := fun o i q => by
      split
      · rw [zst_at, if_neg (by omega)]; exact j3 o i q
      · exact j3 o i q
    have a2 : (if aRng A' n k = true then zst st v 23 n (st.1 v 23 n ||| ((1 : Int32) <<< (nI k &&& 31))) else st).1 v 23 n = zm (aRng A' n) (k + 1) := by
      by_cases q : aRng A' n k = true
      · rw [if_pos q, zst_at, if_pos ⟨rfl, rfl, rfl⟩, j1, zm_s1 q]
      · rw [if_neg q, j1, zm_s0 (by simpa using q)]
    have a3 : ∀ i, i < n → (if aRng A' n k = true then zst st v 23 n (st.1 v 23 n ||| ((1 : Int32) <<< (nI k &&& 31))) else st).1 v 23 i = st.1 v 23 i := fun i hi => by
      split
      · rw [zst_at, if_neg (by omega)]
      · rfl
    have a4 : zfV v s1 (if aRng A' n k = true then zst st v 23 n (st.1 v 23 n ||| ((1 : Int32) <<< (nI k &&& 31))) else st) := by
      split
      · exact j4.tr (zfV.st v st 23 _ _)
      · exact j4
    generalize (if aRng A' n k = true then zst st v 23 n (st.1 v 23 n ||| ((1 : Int32) <<< (nI k &&& 31))) else st) = s2 at a1 a2 a3 a4 ⊢
    refine zOk.eq (note s2 k n (by omega) (by omega) (by omega) a1) ?_
    rw [nI_1]
    refine kk _ ⟨?_, fun i hi => ?_, fun o i q => ?_, ?_⟩
    · split
      · rw [zst_at, if_neg (by omega)]; exact a2
      · exact a2
    · have b3 := a3 i hi
      rw [j2 i hi] at b3
      by_cases z : i = k
      · subst z
        rw [if_neg (by omega)] at b3
        by_cases q : aRng A' i n = true
        · rw [if_pos q, zst_at, if_pos ⟨rfl, rfl, rfl⟩, b3, if_pos ⟨by omega, q⟩]
        · rw [if_neg q, b3, if_neg (fun u => q u.2)]
      · have e : (if aRng A' k n = true then zst s2 v 23 k (s2.1 v 23 k ||| ((1 : Int32) <<< (nI n &&& 31))) else s2).1 v 23 i = s2.1 v 23 i := by
          split
          · rw [zst_at, if_neg (by omega)]
          · rfl
        rw [e, b3]
        by_cases q : i < k ∧ aRng A' i n = true
        · rw [if_pos q, if_pos ⟨by omega, q.2⟩]
        · rw [if_neg q, if_neg (fun u => q ⟨by omega, u.2⟩)]
    · split
      · rw [zst_at, if_neg (by omega)]; exact a1 o i q
      · exact a1 o i q
    · split
      · exact a4.tr (zfV.st v s2 23 _ _)
      · exact a4
  · try dsimp only
    obtain ⟨j1, j2, j3, j4⟩ := hJ
    rw [e_Homes_add_0, if_pos (nI_le0 (by omega)), nI_1]
    -- the new state
    have k1 : ∀ o i, o ≠ 3 → o ≠ 23 → (zst st v 3 0 (nI (n + 1))).1 v o i = s1.1 v o i := fun o i a b => by rw [zst_at, if_neg (by omega), j3 o i b]
    have k2 : ∀ o i, o ≠ 3 → ¬ (5 ≤ o ∧ o ≤ 23) → (zst st v 3 0 (nI (n + 1))).1 v o i = σ.1 v o i := fun o i a b => by rw [k1 o i a (by omega), e1 o i (Or.inl b)]
    have ne1 : ∀ i, i < 32 → ¬ (-1 : Int32) = nI i := fun i hi z => oI_ne (e := i) (by omega) z.symm
    refine ⟨_, rfl, rfl, ⟨⟨?_, ?_, ?_, ?_, ?_, ?_⟩, ?_, by rw [← hA']; exact aInv_house hI hn12 hx hy hr hb hs, by rw [← hA']; exact aDue_house hI hD, ?_⟩, (f1.tr j4).tr (zfV.st v st 3 _ _)⟩
    · refine ⟨?_, ?_, ?_, ?_, ?_, ?_, fun k hk => ?_⟩
      · rw [k2 0 0 (by decide) (by omega), h1, at' 0 5 0 (by omega)]
      · rw [k2 0 1 (by decide) (by omega), h2, at' 0 8 0 (by omega)]
      · rw [k2 0 2 (by decide) (by omega), h3, at' 0 9 0 (by omega)]
      · rw [k2 0 3 (by decide) (by omega), h4, at' 13 23 0 (by omega)]
      · rw [zst_at, if_pos ⟨rfl, rfl, rfl⟩]
      · rw [k2 24 0 (by decide) (by omega), h6]
      · rw [k2 2 k (by decide) (by omega), h7 k hk, at' 0 k 0 (by omega)]
    · intro h hh
      by_cases z : h = n
      · subst z
        obtain ⟨g5, g7, g9, g11, g13, g15, g17, g19, g21, -⟩ := e1n
        rw [k1 5 h (by decide) (by decide), k1 7 h (by decide) (by decide), k1 9 h (by decide) (by decide), k1 11 h (by decide) (by decide), k1 13 h (by decide) (by decide), k1 15 h (by decide) (by decide), k1 17 h (by decide) (by decide), k1 19 h (by decide) (by decide), k1 21 h (by decide) (by decide), zst_at, if_neg (by omega), g5, g7, g9, g11, g13, g15, g17, g19, g21, ah' 0 (by decide), ah' 1 (by decide), ah' 2 (by decide), ah' 3 (by decide), ah' 4 (by decide), ah' 5 (by decide), ah' 6 (by decide), ah' 7 (by decide), ah' 8 (by decide)]
        refine ⟨rfl, rfl, rfl, rfl, rfl, rfl, rfl, rfl, rfl, ?_⟩
        rw [j1]
        unfold aNear
        rw [zm_s0 (by simp [aRng])]
      · have hn : h < n := by omega
        obtain ⟨g0, g1, g2, g3, g4, g5, g6, g7, g8, g9⟩ := r2 h hn
        have k3 : ∀ o, o ≠ 3 → o ≠ 23 → (zst st v 3 0 (nI (n + 1))).1 v o h = σ.1 v o h := fun o a b => by rw [k1 o h a b, e1 o h (Or.inr z)]
        have k4 : ∀ j, A' 1 h j = A 1 h j := fun j => at' 1 h j (by omega)
        rw [k3 5 (by decide) (by decide), k3 7 (by decide) (by decide), k3 9 (by decide) (by decide), k3 11 (by decide) (by decide), k3 13 (by decide) (by decide), k3 15 (by decide) (by decide), k3 17 (by decide) (by decide), k3 19 (by decide) (by decide), k3 21 (by decide) (by decide), k4, k4, k4, k4, k4, k4, k4, k4, k4, zst_at, if_neg (by omega), j2 h hn, g9]
        refine ⟨g0, g1, g2, g3, g4, g5, g6, g7, g8, ?_⟩
        have en : zm (aRng A' h) n = aNear A n h := zm_congr (fun i hi => by unfold aRng aDist; rw [k4, k4, k4, at' 1 i 0 (by omega), at' 1 i 1 (by omega)])
        unfold aNear at en ⊢
        by_cases q : aRng A' h n = true
        · rw [if_pos ⟨hn, q⟩, zm_s1 q, en]
        · rw [if_neg (fun u => q u.2), zm_s0 (by simpa using q), en]
    · intro w hw
      obtain ⟨g1, g2, g3, g4, g5, g6, g7, g8, g9⟩ := r3 w hw
      have k3 : ∀ o, 24 ≤ o → (zst st v 3 0 (nI (n + 1))).1 v o w = σ.1 v o w := fun o a => k2 o w (by omega) (by omega)
      have t2 : ∀ j, A' 2 w j = A 2 w j := fun j => at' 2 w j (by omega)
      rw [k3 26 (by decide), k3 28 (by decide), k3 30 (by decide), k3 32 (by decide), k3 34 (by decide), k3 36 (by decide), k3 38 (by decide), k3 40 (by decide), k3 42 (by decide), t2, t2, t2, t2, t2, t2]
      refine ⟨g1, g2, g3, g4, g5, g6, ?_, ?_, ?_⟩
      · rw [g7, zm_s0 (by rw [ap' 3 w (by decide) (by decide) (by omega)]; simp)]
        exact zm_congr (fun i hi => by rw [at' 3 i w (by omega)])
      · rw [g8, zm_s0 (by rw [ap' 4 w (by decide) (by decide) (by omega)]; simp)]
        exact zm_congr (fun i hi => by rw [at' 4 i w (by omega)])
      · rw [g9, zmx, ap' 6 w (by decide) (by decide) (by omega)]
        have e : zmx (fun h => A' 6 h w) n = zmx (fun h => A 6 h w) n := zmx_cong (fun i hi => at' 6 i w (by omega))
        have nn := zmx_nn (f := fun h => A 6 h w) (n := n)
        rw [e, if_neg (by simp only [if_neg (show ¬ 6 = 5 by decide)]; rw [Int32.lt_iff_toInt_lt, Int32.toInt_zero]; omega)]
    · intro k hk
      obtain ⟨g1, g2⟩ := r4 k hk
      rw [k2 45 k (by decide) (by omega), k2 50 k (by decide) (by omega), g1, g2]
      constructor
      · refine zm_congr (fun w hw => ?_)
        by_cases z : k = n
        · subst z
          rw [ap' 7 w (by decide) (by decide) (by omega)]; simp
        · rw [at' 7 k w (by omega)]
          have : (k < n + 1) = (k < n) := by simp; omega
          simp [this]
      · refine zm_congr (fun w hw => ?_)
        by_cases z : k = n
        · subst z
          rw [ap' 10 w (by decide) (by decide) (by omega)]; simp
        · rw [at' 10 k w (by omega)]
          have : (k < n + 1) = (k < n) := by simp; omega
          simp [this]
    · intro k w hk hw
      by_cases z : k = n
      · subst z
        rw [ap' 7 w (by decide) (by decide) (by omega), ap' 10 w (by decide) (by decide) (by omega)]
        exact ⟨fun q => by simp at q, fun q => by simp at q⟩
      · obtain ⟨g1, g2⟩ := r5 k w (by omega) hw
        rw [k2 47 _ (by decide) (by omega), k2 54 _ (by decide) (by omega), k2 52 _ (by decide) (by omega), at' 7 k w (by omega), at' 8 k w (by omega), at' 9 k w (by omega), at' 10 k w (by omega), at' 11 k w (by omega)]
        exact ⟨g1, g2⟩
    · intro k w hk hw
      obtain ⟨g1, g2⟩ := r6 k w hk hw
      rw [k2 56 _ (by decide) (by omega), k2 58 _ (by decide) (by omega), g1, g2]
      by_cases z : k = n
      · subst z
        rw [ap' 5 w (by decide) (by decide) (by omega)]
        constructor
        · simp
        · rw [(zm_zero (by omega)).mpr (fun i hi => by simp)]
          refine ((zm_zero (by omega)).mpr (fun i hi => ?_)).symm
          unfold aLk
          rw [ap' 5 w (by decide) (by decide) (by omega)]
          by_cases u : i = k
          · subst u
            rw [ap' 5 w (by decide) (by decide) (by omega)]
            simp [ne1 i (by omega)]
          · rw [at' 5 i w (by omega)]
            have := aLk_lt hI (h := i) (w := w) (by omega) hw (Nat.le_refl k) (by omega)
            simp [ne1 i (by omega), this]
      · rw [at' 5 k w (by omega)]
        constructor
        · by_cases u : k < n
          · rw [if_pos u, if_pos (by omega)]
          · rw [if_neg u, if_neg (by omega)]
        · have lt : (k < n + 1) = (k < n) := by simp; omega
          have zn : (decide (k < n + 1) && aLk A' k w n) = false := by
            unfold aLk
            rw [at' 5 k w (by omega), ap' 5 w (by decide) (by decide) (by omega)]
            by_cases u : k < n
            · rw [aLk_lt hI u hw (Nat.le_refl n) (by omega)]
              simp [ne1 k (by omega)]
            · simp [lt, u]
          rw [zm_s0 zn]
          refine zm_congr (fun i hi => ?_)
          unfold aLk
          rw [at' 5 k w (by omega), at' 5 i w (by omega)]
          simp [lt]
    · exact r7.cg (fun o i a => k2 o i (by omega) (by omega)) (at' 0 10 0 (by omega)) (fun i j => at' 12 i j (by omega))
    · obtain ⟨s, g1, g2, g3⟩ := hL
      exact ⟨s, g1, by rw [at' 0 10 0 (by omega)]; exact g2, by rw [at' 0 11 0 (by omega)]; exact g3⟩
/-- what a correction writes of its news -/
def aCo (A : zAb) (h w : Nat) (body : Int32) : zAb := aup (aup (aup A 2 w 3 body) 2 w 4 (nI h)) 2 w 5 (A 0 8 0)
theorem aDue_learn (hI : aInv A n m T) (hD : aDue A n m) {h w : Nat} (hh : h < n) (hw : w < m) (k0 : ∀ x, x < n → A 4 x w = 0) : aDue (aLearn A n h w) n m := fun x y hx hy q => by
  have out : ∀ f i j, j ≠ w → aLearn A n h w f i j = A f i j := fun f i j q => by
    unfold aLearn
    split
    · rw [aup, if_neg (by omega), aup, if_neg (by omega)]
    · rw [aup, if_neg (by omega), aup, if_neg (by omega), aup, if_neg (by omega), aup, if_neg (by omega)]
  by_cases z : y = w
  · subst z
    have k10 : ∀ x, x < n → ¬ A 10 x y = 1 := fun x hx u => by
      have := (hI.2.2.2.2 x y hx hw).2.2.2.2.2.2.2.2.2.2.2 u
      rw [k0 x hx] at this; exact absurd this (by decide)
    by_cases u : x = h
    · subst u
      intro e
      apply k10 x hx
      unfold aLearn at q e
      by_cases d : aOws (aup (aup A 4 x y 1) 7 x y 0) n x y = 0
      · rw [if_pos d] at q; simpa [aup] using q
      · rw [if_neg d] at e
        exact absurd ((aOws_cg (fun i _ => by simp [aup]) (fun i _ => by simp [aup])).trans e) d
    · exfalso
      apply k10 x hx
      unfold aLearn at q
      split at q
      · simpa [aup, u] using q
      · simpa [aup, u] using q
  · rw [aOws_cg (B := A) (fun i _ => out 4 i y z) (fun i _ => out 5 i y z)]
    exact hD x y hx hy (by rw [← out 10 x y z]; exact q)
theorem c_addCorr (hC : zC σ v A n m c T) {h w : Nat} (hh : h < n) (hw : w < m) (k4 : A 2 w 4 = -1) (body : Int32) : zOk (F_Village_addCorrection v (nI h) (nI w) body σ) (fun σ' => zC σ' v (aLearn (aCo A h w body) n h w) n m c T ∧ zfV v σ σ') := by
  obtain ⟨⟨r1, r2, r3, r4, r5, r6⟩, r7, hI, hD, hL⟩ := hC
  have hn := hI.1.2.2.1
  have hm := hI.1.2.2.2
  have e2 : ∀ f i j, f ≠ 2 → aCo A h w body f i j = A f i j := fun f i j q => by
    unfold aCo
    rw [aup, if_neg (by omega), aup, if_neg (by omega), aup, if_neg (by omega)]
  have I1 : aInv (aCo A h w body) n m T := by
    refine ⟨zSz_cg (fun k _ => e2 _ _ _ (by decide)) hI.1, aSc_cg (fun k _ => e2 _ _ _ (by decide)) hI.2.1, fun x hx => aHf_cg (fun k _ => e2 _ _ _ (by decide)) (hI.2.2.1 x hx), fun u hu q x hx => ?_, fun x u hx hu => aPf_cg (fun f a b => e2 _ _ _ (by omega)) (hI.2.2.2.2 x u hx hu)⟩
    rw [e2 4 x u (by decide)]
    by_cases z : u = w
    · subst z
      have : aCo A h u body 2 u 4 = nI h := by unfold aCo; simp [aup]
      rw [this] at q
      exact absurd q (oI_ne (by omega))
    · refine hI.2.2.2.1 u hu ?_ x hx
      rw [← q]; unfold aCo; simp [aup, z]
  rw [F_Village_addCorrection]
  refine zOk.eq (r_put31 (by omega) _) (zOk.eq (r_put33 (by omega) _) ?_)
  have et : (zst (zst σ v 32 w body) v 34 w (nI h)).1 v 0 1 = A 0 8 0 := by rw [zst_at, if_neg (by omega), zst_at, if_neg (by omega)]; exact r1.2.1
  rw [et]
  refine zOk.eq (r_put35 (by omega) _) ?_
  generalize hs1 : zst (zst (zst σ v 32 w body) v 34 w (nI h)) v 36 w (A 0 8 0) = s1
  have e1 : ∀ o i, ¬ (32 ≤ o ∧ o ≤ 36) → s1.1 v o i = σ.1 v o i := fun o i a => by
    rw [← hs1, zst_at, if_neg (by omega), zst_at, if_neg (by omega), zst_at, if_neg (by omega)]
  have R1 : zVr s1 v (aCo A h w body) n m c := by
    refine ⟨r1.cg (fun o i q => e1 o i (by omega)) (fun k _ => e2 _ _ _ (by decide)) (e2 _ _ _ (by decide)), r2.cg (fun o i a b => e1 o i (by omega)) (fun i j => e2 _ _ _ (by decide)), fun u hu => ?_, r4.cg (fun o i q => e1 o i (by omega)) (fun f i j q => e2 _ _ _ (by omega)), r5.cg (fun o i q => e1 o i (by omega)) (fun f i j q _ => e2 _ _ _ (by omega)), r6.cg (fun o i q => e1 o i (by omega)) (fun i j => e2 _ _ _ (by decide))⟩
    obtain ⟨g1, g2, g3, g4, g5, g6, g7, g8, g9⟩ := r3 u hu
    have a0 : ∀ j, j < 3 → aCo A h w body 2 u j = A 2 u j := fun j hj => by
      unfold aCo
      rw [aup, if_neg (by omega), aup, if_neg (by omega), aup, if_neg (by omega)]
    simp only [e2 3 _ _ (by decide), e2 4 _ _ (by decide), e2 6 _ _ (by decide)]
    rw [a0 0 (by decide), a0 1 (by decide), a0 2 (by decide), e1 26 u (by decide), e1 28 u (by decide), e1 30 u (by decide), e1 38 u (by decide), e1 40 u (by decide), e1 42 u (by decide)]
    refine ⟨g1, g2, g3, ?_, ?_, ?_, g7, g8, g9⟩
    · rw [← hs1]; unfold aCo
      by_cases z : u = w
      · subst z; simp [zst_at, aup]
      · simp [zst_at, aup, z, g4]
    · rw [← hs1]; unfold aCo
      by_cases z : u = w
      · subst z; simp [zst_at, aup]
      · simp [zst_at, aup, z, g5]
    · rw [← hs1]; unfold aCo
      by_cases z : u = w
      · subst z; simp [zst_at, aup]
      · simp [zst_at, aup, z, g6]
  have J1 : zJk v σ s1 := by
    rw [← hs1]
    exact ((zJk.st _ v (o := 32) _ _ (by decide)).tr (zJk.st _ v (o := 34) _ _ (by decide))).tr (zJk.st _ v (o := 36) _ _ (by decide))
  have k2 : ¬ aCo A h w body 2 w 4 = -1 := by
    have : aCo A h w body 2 w 4 = nI h := by unfold aCo; simp [aup]
    rw [this]; exact oI_ne (by omega)
  refine zOk.bind (c_learn R1 I1 hh hw k2) (fun s2 ⟨R2, J2⟩ => ⟨_, rfl, ⟨R2, ?_, aInv_learn I1 hh hw k2, ?_, ?_⟩, (J1.tr J2).1⟩)
  · have lo : ∀ f i j, (f = 0 ∨ f = 12) → aLearn (aCo A h w body) n h w f i j = A f i j := fun f i j q => by
      unfold aLearn
      split
      · rw [aup, if_neg (by omega), aup, if_neg (by omega)]; exact e2 _ _ _ (by omega)
      · rw [aup, if_neg (by omega), aup, if_neg (by omega), aup, if_neg (by omega), aup, if_neg (by omega)]; exact e2 _ _ _ (by omega)
    exact r7.cg (J1.tr J2).2 (lo _ _ _ (by decide)) (fun i j => lo _ _ _ (by decide))
  · exact aDue_learn I1 (aDue_cg hD (fun f x y q => e2 _ _ _ (by omega))) hh hw (fun x hx => by rw [e2 4 x w (by decide)]; exact hI.2.2.2.1 w hw k4 x hx)
  · have lo : ∀ i j, aLearn (aCo A h w body) n h w 0 i j = A 0 i j := fun i j => by
      unfold aLearn
      split
      · rw [aup, if_neg (by omega), aup, if_neg (by omega)]; exact e2 _ _ _ (by decide)
      · rw [aup, if_neg (by omega), aup, if_neg (by omega), aup, if_neg (by omega), aup, if_neg (by omega)]; exact e2 _ _ _ (by decide)
    obtain ⟨s, g1, g2, g3⟩ := hL
    exact ⟨s, g1, (lo _ _).trans g2, (lo _ _).trans g3⟩
end CH

