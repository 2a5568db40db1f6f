/-! a news is told, a house is built, a correction begins -/
theorem zC_k {σ σ' : zSt} {A A' : zAb} {v n m T : Nat} {c : Int32} (hC : zC σ v A n m c T) (R : zVr σ' v A' n m c) (e : ∀ o i, o = 59 ∨ o = 61 → σ'.1 v o i = σ.1 v o i) (I : aInv A' n m T) (a10 : A' 0 10 0 = A 0 10 0) (a11 : A' 0 11 0 = A 0 11 0) (a12 : ∀ i j, A' 12 i j = A 12 i j) (aD : ∀ f h w, f = 4 ∨ f = 5 ∨ f = 10 → A' f h w = A f h w) : zC σ' v A' n m c T := by
  obtain ⟨-, h7, -, hD, s, h1, h2, h3⟩ := hC
  exact ⟨R, h7.cg e a10 a12, I, aDue_cg hD aD, s, h1, a10.trans h2, a11.trans h3⟩
section CT
variable {σ : zSt} {A : zAb} {n m T v : Nat} {c : Int32}
theorem aTell_at {h : Nat} {body : Int32} {f i j : Nat} (q : f = 1 ∨ f = 12 ∨ 13 ≤ f ∨ (f = 0 ∧ i ≠ 7) ∨ (f = 2 ∧ i ≠ m) ∨ (3 ≤ f ∧ f ≤ 11 ∧ j ≠ m)) : aTell A m h body f i j = A f i j := by
  rw [aTell, if_neg (by omega), if_neg (by omega), if_neg (by omega)]
theorem aTell_p {h : Nat} {body : Int32} {f i : Nat} (h3 : 3 ≤ f) (h11 : f ≤ 11) (hi : i < 12) : aTell A m h body f i m = if i = h ∧ f = 3 then 1 else if i = h ∧ f = 7 then 1 else if i = h ∧ f = 8 then A 0 8 0 else if f = 5 then -1 else 0 := by
  rw [aTell, if_pos ⟨h3, h11, hi, rfl⟩]
theorem aTell_7 {h : Nat} {body : Int32} : aTell A m h body 0 7 0 = nI (m + 1) := by
  rw [aTell, if_neg (by omega), if_neg (by omega), if_pos ⟨rfl, rfl, rfl⟩]
theorem aTell_s {h : Nat} {body : Int32} {j : Nat} (hj : j < 6) : aTell A m h body 2 m j = if j = 0 then nI h else if j = 1 then A 0 8 0 else if j = 2 then body else -1 := by
  rw [aTell, if_neg (by omega), if_pos ⟨rfl, rfl, hj⟩]
theorem aInv_tell (hI : aInv A n m T) (hm : m < 20) {h : Nat} (hh : h < n) {body : Int32} : aInv (aTell A m h body) n (m + 1) T := by
  obtain ⟨i1, i2, i3, i4, i5⟩ := hI
  have hn := i1.2.2.1
  have o0 : ∀ k, k < 10 → k ≠ 7 → aTell A m h body 0 k 0 = A 0 k 0 := fun k _ a => aTell_at (by omega)
  refine ⟨⟨(o0 6 (by decide) (by decide)).trans i1.1, aTell_7, hn, by omega⟩, ?_, fun x hx => aHf_cg (fun k _ => aTell_at (by omega)) (i3 x hx), fun w hw q x hx => ?_, fun x w hx hw => ?_⟩
  · unfold aSc at *
    rw [o0 5 (by decide) (by decide), o0 8 (by decide) (by decide), o0 9 (by decide) (by decide), o0 0 (by decide) (by decide), o0 1 (by decide) (by decide), o0 2 (by decide) (by decide), o0 3 (by decide) (by decide), o0 4 (by decide) (by decide)]
    exact i2
  · by_cases y : w = m
    · subst y
      rw [aTell_p (by decide) (by decide) (by omega)]
      simp
    · rw [aTell_at (by omega)]
      exact i4 w (by omega) (by rw [← aTell_at (A := A) (m := m) (h := h) (body := body) (f := 2) (i := w) (j := 4) (by omega)]; exact q) x hx
  · by_cases y : w = m
    · subst y
      unfold aPf
      simp only [aTell_p (A := A) (m := w) (h := h) (body := body) (i := x) (show 3 ≤ 3 by decide) (by decide) (by omega), aTell_p (A := A) (m := w) (h := h) (body := body) (i := x) (show 3 ≤ 4 by decide) (by decide) (by omega), aTell_p (A := A) (m := w) (h := h) (body := body) (i := x) (show 3 ≤ 5 by decide) (by decide) (by omega), aTell_p (A := A) (m := w) (h := h) (body := body) (i := x) (show 3 ≤ 6 by decide) (by decide) (by omega), aTell_p (A := A) (m := w) (h := h) (body := body) (i := x) (show 3 ≤ 7 by decide) (by decide) (by omega), aTell_p (A := A) (m := w) (h := h) (body := body) (i := x) (show 3 ≤ 8 by decide) (by decide) (by omega), aTell_p (A := A) (m := w) (h := h) (body := body) (i := x) (show 3 ≤ 9 by decide) (by decide) (by omega), aTell_p (A := A) (m := w) (h := h) (body := body) (i := x) (show 3 ≤ 10 by decide) (by decide) (by omega), aTell_p (A := A) (m := w) (h := h) (body := body) (i := x) (show 3 ≤ 11 by decide) (by decide) (by omega)]
      obtain ⟨-, eT, -⟩ := i2
      by_cases z : x = h
      · simp [z, eT]
        exact ⟨⟨0, by omega, rfl⟩, ⟨T, by omega, rfl⟩, ⟨0, by omega, rfl⟩, ⟨0, by omega, rfl⟩⟩
      · simp [z]
        exact ⟨⟨0, by omega, rfl⟩, ⟨0, by omega, rfl⟩, ⟨0, by omega, rfl⟩, ⟨0, by omega, rfl⟩⟩
    · exact aPf_cg (fun f a b => aTell_at (by omega)) (i5 x w hx (by omega))
theorem aDue_tell (hI : aInv A n m T) (hD : aDue A n m) {h : Nat} {body : Int32} : aDue (aTell A m h body) n (m + 1) := fun x w hx hw q => by
  have hn := hI.1.2.2.1
  by_cases y : w = m
  · subst y
    rw [aTell_p (by decide) (by decide) (by omega)] at q
    simp at q
  · rw [aOws_cg (B := A) (fun i _ => aTell_at (by omega)) (fun i _ => aTell_at (by omega))]
    exact hD x w hx (by omega) (by rw [← aTell_at (A := A) (m := m) (h := h) (body := body) (f := 10) (i := x) (j := w) (by omega)]; exact q)
theorem zmx_0 {f : Nat → Int32} : ∀ {n : Nat}, (∀ i, i < n → f i = 0) → zmx f n = 0
  | 0, _ => rfl
  | n + 1, h => by
    rw [zmx, zmx_0 (fun i hi => h i (by omega)), h n (by omega)]
    rfl
theorem c_addNews (hC : zC σ v A n m c T) (hm : m < 20) {h : Nat} (hh : h < n) (body : Int32) : zOk (F_Village_addNews v (nI h) body σ) (fun q => q.1 = nI m ∧ zC q.2 v (aTell A m h body) n (m + 1) c T ∧ zfV v σ q.2) := by
  obtain ⟨⟨r1, r2, r3, r4, r5, r6⟩, r7, hI, hD, hL⟩ := hC
  have hn := hI.1.2.2.1
  obtain ⟨h1, h2, h3, h4, h5, h6, h7⟩ := r1
  -- the stories' cells
  have add : F_Tidings_add v (nI h) (σ.1 v 0 1) body σ = some (nI m, zst (zst (zst (zst (zst (zst (zst (zst (zst (zst σ v 26 m (nI h)) v 28 m (σ.1 v 0 1)) v 30 m body) v 32 m (-1)) v 34 m (-1)) v 36 m (-1)) v 38 m ((1 : Int32) <<< (nI h &&& 31))) v 40 m 0) v 42 m 0) v 24 0 (nI (m + 1))) := by
    rw [F_Tidings_add, h6, r_put25 (by omega), Option.bind_some, r_put27 (by omega), Option.bind_some, r_put29 (by omega), Option.bind_some, r_put31 (by omega), Option.bind_some, r_put33 (by omega), Option.bind_some, r_put35 (by omega), Option.bind_some, F_Waves_bit, Option.bind_some, r_put37 (by omega), Option.bind_some, r_put39 (by omega), Option.bind_some, r_put41 (by omega), Option.bind_some, nI_1]
  rw [F_Village_addNews]
  refine zOk.bd2 (P := fun q => q = (nI m, zst (zst (zst (zst (zst (zst (zst (zst (zst (zst σ v 26 m (nI h)) v 28 m (σ.1 v 0 1)) v 30 m body) v 32 m (-1)) v 34 m (-1)) v 36 m (-1)) v 38 m ((1 : Int32) <<< (nI h &&& 31))) v 40 m 0) v 42 m 0) v 24 0 (nI (m + 1)))) ⟨_, add, rfl⟩ (fun r s1 hq => ?_)
  obtain ⟨rfl, hs1⟩ := Prod.mk.inj hq
  clear hq add
  have e1 : ∀ o i, ¬ (26 ≤ o ∧ o ≤ 42) → o ≠ 24 → s1.1 v o i = σ.1 v o i := fun o i a b => by
    rw [hs1, zst_at, if_neg (by omega), zst_at, if_neg (by omega), zst_at, if_neg (by omega), zst_at, if_neg (by omega), zst_at, if_neg (by omega), zst_at, if_neg (by omega), zst_at, if_neg (by omega), zst_at, if_neg (by omega), zst_at, if_neg (by omega), zst_at, if_neg (by omega)]
  have e1w : ∀ o w, w ≠ m → o ≠ 24 → s1.1 v o w = σ.1 v o w := fun o i a b => by
    rw [hs1, zst_at, if_neg (by omega), zst_at, if_neg (by omega), zst_at, if_neg (by omega), zst_at, if_neg (by omega), zst_at, if_neg (by omega), zst_at, if_neg (by omega), zst_at, if_neg (by omega), zst_at, if_neg (by omega), zst_at, if_neg (by omega), zst_at, if_neg (by omega)]
  have e1m : s1.1 v 26 m = nI h ∧ s1.1 v 28 m = σ.1 v 0 1 ∧ s1.1 v 30 m = body ∧ s1.1 v 32 m = -1 ∧ s1.1 v 34 m = -1 ∧ s1.1 v 36 m = -1 ∧ s1.1 v 38 m = (1 : Int32) <<< (nI h &&& 31) ∧ s1.1 v 40 m = 0 ∧ s1.1 v 42 m = 0 ∧ s1.1 v 24 0 = nI (m + 1) := by
    rw [hs1]; simp [zst_at]
  have f1 : zfV v σ s1 := by
    rw [hs1]
    exact (((((((((zfV.st v _ _ _ _).tr (zfV.st v _ _ _ _)).tr (zfV.st v _ _ _ _)).tr (zfV.st v _ _ _ _)).tr (zfV.st v _ _ _ _)).tr (zfV.st v _ _ _ _)).tr (zfV.st v _ _ _ _)).tr (zfV.st v _ _ _ _)).tr (zfV.st v _ _ _ _)).tr (zfV.st v _ _ _ _)
  clear hs1
  refine z_loopC (fun j k st => L_Village_addNews v j 0 (nI h) (nI m) (nI k) st) 12 0 (fun k st => (∀ i, i < k → st.1 v 56 (20 * i + m) = -1 ∧ st.1 v 58 (20 * i + m) = 0) ∧ (∀ o i, ¬ ((o = 56 ∨ o = 58) ∧ i % 20 = m) → st.1 v o i = s1.1 v o i) ∧ zfV v s1 st) _ (fun k st hk hJ j kk => ?_) (fun st hJ j hj => ?_) zK s1 (zK_lt (by omega)) ⟨fun i hi => absurd hi (Nat.not_lt_zero i), fun _ _ _ => rfl, zfV.rf v s1⟩
  · try dsimp only
    obtain ⟨j1, j2, j3⟩ := hJ
    rw [e_Village_addNews_0, if_neg (show ¬ (12 : Int32) ≤ nI k from nI_ge (b := 12) hk (by decide))]
    refine zOk.eq (r_cell st) (zOk.eq (r_put55 (by omega) _) (zOk.eq (r_cell _) (zOk.eq (r_put57 (by omega) _) ?_)))
    rw [nI_1]
    refine kk _ ⟨fun i hi => ?_, fun o i q => ?_, (j3.tr (zfV.st v st 56 _ _)).tr (zfV.st v _ 58 _ _)⟩
    · constructor
      · rw [zst_at, if_neg (by omega), zst_at]
        by_cases y : i = k
        · subst y; rw [if_pos ⟨rfl, rfl, rfl⟩]
        · rw [if_neg (by omega)]; exact (j1 i (by omega)).1
      · rw [zst_at]
        by_cases y : i = k
        · subst y; rw [if_pos ⟨rfl, rfl, rfl⟩]
        · rw [if_neg (by omega), zst_at, if_neg (by omega)]; exact (j1 i (by omega)).2
    · rw [zst_at, if_neg (by omega), zst_at, if_neg (by omega)]
      exact j2 o i q
  · try dsimp only
    obtain ⟨j1, j2, j3⟩ := hJ
    rw [e_Village_addNews_0, if_pos (show (12 : Int32) ≤ nI 12 by decide)]
    have et : st.1 v 0 1 = A 0 8 0 := by rw [j2 0 1 (by omega), e1 0 1 (by omega) (by decide), h2]
    rw [et]
    refine zOk.eq (c_put43 (by omega) (by omega) _) (zOk.eq (r_cell _) (zOk.eq (r_put53 (by omega) _) ?_))
    generalize hs2 : zst (zst (zst st v 45 h (st.1 v 45 h ||| ((1 : Int32) <<< (nI m &&& 31)))) v 47 (20 * h + m) (A 0 8 0)) v 54 (20 * h + m) 0 = s2
    have k2 : ∀ o i, o ≠ 45 → o ≠ 47 → o ≠ 54 → s2.1 v o i = st.1 v o i := fun o i a b c => by
      rw [← hs2, zst_at, if_neg (by omega), zst_at, if_neg (by omega), zst_at, if_neg (by omega)]
    -- a cell that is no news' own
    have k3 : ∀ o i, ¬ (26 ≤ o ∧ o ≤ 42) → o ≠ 24 → o ≠ 45 → o ≠ 47 → o ≠ 54 → o ≠ 56 → o ≠ 58 → s2.1 v o i = σ.1 v o i := fun o i a b c d e f g => by
      rw [k2 o i c d e, j2 o i (by omega), e1 o i a b]
    have k4 : ∀ o w, 26 ≤ o → o ≤ 42 → s2.1 v o w = s1.1 v o w := fun o w a b => by
      rw [k2 o w (by omega) (by omega) (by omega), j2 o w (by omega)]
    obtain ⟨m1, m2, m3, m4, m5, m6, m7, m8, m9, m10⟩ := e1m
    have fV : zfV v σ s2 := by
      rw [← hs2]
      exact (((f1.tr j3).tr (zfV.st v st 45 _ _)).tr (zfV.st v _ 47 _ _)).tr (zfV.st v _ 54 _ _)
    refine ⟨_, rfl, rfl, ⟨⟨?_, ?_, ?_, ?_, ?_, ?_⟩, ?_, aInv_tell hI hm hh, aDue_tell hI hD, ?_⟩, fV⟩
    · have o0 : ∀ k, k ≠ 7 → aTell A m h body 0 k 0 = A 0 k 0 := fun k a => aTell_at (by omega)
      refine ⟨?_, ?_, ?_, ?_, ?_, ?_, fun k hk => ?_⟩
      · rw [k3 0 0 (by omega) (by decide) (by decide) (by decide) (by decide) (by decide) (by decide), h1, o0 5 (by decide)]
      · rw [k3 0 1 (by omega) (by decide) (by decide) (by decide) (by decide) (by decide) (by decide), h2, o0 8 (by decide)]
      · rw [k3 0 2 (by omega) (by decide) (by decide) (by decide) (by decide) (by decide) (by decide), h3, o0 9 (by decide)]
      · rw [k3 0 3 (by omega) (by decide) (by decide) (by decide) (by decide) (by decide) (by decide), h4, aTell_at (by omega)]
      · rw [k3 3 0 (by omega) (by decide) (by decide) (by decide) (by decide) (by decide) (by decide), h5]
      · rw [k2 24 0 (by decide) (by decide) (by decide), j2 24 0 (by omega), m10]
      · rw [k3 2 k (by omega) (by decide) (by decide) (by decide) (by decide) (by decide) (by decide), h7 k hk, o0 k (by omega)]
    · exact r2.cg (fun o i a b => k3 o i (by omega) (by omega) (by omega) (by omega) (by omega) (by omega) (by omega)) (fun i j => aTell_at (by omega))
    · intro w hw
      by_cases y : w = m
      · subst y
        rw [k4 26 w (by decide) (by decide), k4 28 w (by decide) (by decide), k4 30 w (by decide) (by decide), k4 32 w (by decide) (by decide), k4 34 w (by decide) (by decide), k4 36 w (by decide) (by decide), k4 38 w (by decide) (by decide), k4 40 w (by decide) (by decide), k4 42 w (by decide) (by decide), m1, m2, m3, m4, m5, m6, m7, m8, m9]
        simp only [aTell_s (A := A) (m := w) (h := h) (body := body) (show 0 < 6 by decide), aTell_s (A := A) (m := w) (h := h) (body := body) (show 1 < 6 by decide), aTell_s (A := A) (m := w) (h := h) (body := body) (show 2 < 6 by decide), aTell_s (A := A) (m := w) (h := h) (body := body) (show 3 < 6 by decide), aTell_s (A := A) (m := w) (h := h) (body := body) (show 4 < 6 by decide), aTell_s (A := A) (m := w) (h := h) (body := body) (show 5 < 6 by decide)]
        refine ⟨rfl, h2, rfl, rfl, rfl, rfl, ?_, ?_, ?_⟩
        · rw [zm_bit (by omega) hh]
          refine zm_congr (fun i hi => ?_)
          rw [aTell_p (by decide) (by decide) (by omega)]
          by_cases z : i = h <;> simp [z]
        · refine ((zm_zero (by omega)).mpr (fun i hi => ?_)).symm
          rw [aTell_p (by decide) (by decide) (by omega)]
          simp
        · refine (zmx_0 (fun i hi => ?_)).symm
          rw [aTell_p (by decide) (by decide) (by omega)]
          simp
      · obtain ⟨g1, g2, g3, g4, g5, g6, g7, g8, g9⟩ := r3 w (by omega)
        have k5 : ∀ o, 26 ≤ o → o ≤ 42 → s2.1 v o w = σ.1 v o w := fun o a b => by rw [k4 o w a b, e1w o w y (by omega)]
        have t2 : ∀ j, aTell A m h body 2 w j = A 2 w j := fun j => aTell_at (by omega)
        have tp : ∀ f i, 3 ≤ f → f ≤ 11 → aTell A m h body f i w = A f i w := fun f i a b => aTell_at (by omega)
        simp only [t2, tp 3 _ (by decide) (by decide), tp 4 _ (by decide) (by decide), tp 6 _ (by decide) (by decide)]
        rw [k5 26 (by decide) (by decide), k5 28 (by decide) (by decide), k5 30 (by decide) (by decide), k5 32 (by decide) (by decide), k5 34 (by decide) (by decide), k5 36 (by decide) (by decide), k5 38 (by decide) (by decide), k5 40 (by decide) (by decide), k5 42 (by decide) (by decide)]
        exact ⟨g1, g2, g3, g4, g5, g6, g7, g8, g9⟩
    · intro k hk
      obtain ⟨g1, g2⟩ := r4 k hk
      have tp : ∀ f i w, w < m → 3 ≤ f → f ≤ 11 → aTell A m h body f i w = A f i w := fun f i w q a b => aTell_at (by omega)
      have z45 : zm (fun w => decide (k < n) && decide (aTell A m h body 7 k w = 1)) m = σ.1 v 45 k := by
        rw [g1]; exact zm_congr (fun w hw => by rw [tp 7 k w hw (by decide) (by decide)])
      constructor
      · rw [← hs2, zst_at, if_neg (by omega), zst_at, if_neg (by omega), zst_at]
        have e45 : st.1 v 45 k = σ.1 v 45 k := by rw [j2 45 k (by omega), e1 45 k (by omega) (by decide)]
        by_cases y : k = h
        · subst y
          rw [if_pos ⟨rfl, rfl, rfl⟩, e45, zm_s1 (by rw [aTell_p (by decide) (by decide) hk]; simp [hh]), z45]
        · rw [if_neg (by omega), e45, zm_s0 (by rw [aTell_p (by decide) (by decide) hk]; simp [y]), z45]
      · rw [k3 50 k (by omega) (by decide) (by decide) (by decide) (by decide) (by decide) (by decide), g2, zm_s0 (by rw [aTell_p (by decide) (by decide) hk]; simp)]
        exact zm_congr (fun w hw => by rw [tp 10 k w hw (by decide) (by decide)])
    · intro k w hk hw
      by_cases y : w = m
      · subst y
        rw [aTell_p (by decide) (by decide) (by omega), aTell_p (by decide) (by decide) (by omega), aTell_p (by decide) (by decide) (by omega), aTell_p (by decide) (by decide) (by omega), aTell_p (by decide) (by decide) (by omega)]
        by_cases z : k = h
        · subst z
          rw [← hs2]
          simp [zst_at]
        · simp [z]
      · obtain ⟨g1, g2⟩ := r5 k w hk (by omega)
        have tp : ∀ f, 3 ≤ f → f ≤ 11 → aTell A m h body f k w = A f k w := fun f a b => aTell_at (by omega)
        rw [tp 7 (by decide) (by decide), tp 8 (by decide) (by decide), tp 9 (by decide) (by decide), tp 10 (by decide) (by decide), tp 11 (by decide) (by decide)]
        have k5 : ∀ o, o = 47 ∨ o = 52 ∨ o = 54 → s2.1 v o (20 * k + w) = σ.1 v o (20 * k + w) := fun o a => by
          rw [← hs2, zst_at, if_neg (by omega), zst_at, if_neg (by omega), zst_at, if_neg (by omega), j2 o _ (by omega), e1 o _ (by omega) (by omega)]
        rw [k5 47 (by decide), k5 52 (by decide), k5 54 (by decide)]
        exact ⟨g1, g2⟩
    · intro k w hk hw
      by_cases y : w = m
      · subst y
        obtain ⟨q1, q2⟩ := j1 k hk
        rw [k2 56 _ (by decide) (by decide) (by decide), k2 58 _ (by decide) (by decide) (by decide), q1, q2]
        constructor
        · rw [aTell_p (by decide) (by decide) hk]; simp
        · refine ((zm_zero (by omega)).mpr (fun i hi => ?_)).symm
          unfold aLk
          rw [aTell_p (by decide) (by decide) hk, aTell_p (by decide) (by decide) (by omega)]
          have a1 : ¬ (-1 : Int32) = nI i := fun z => oI_ne (e := i) (by omega) z.symm
          have a2 : ¬ (-1 : Int32) = nI k := fun z => oI_ne (e := k) (by omega) z.symm
          simp [a1, a2]
      · obtain ⟨g1, g2⟩ := r6 k w hk (by omega)
        have tp : ∀ i, aTell A m h body 5 i w = A 5 i w := fun i => aTell_at (by omega)
        have k5 : ∀ o, o = 56 ∨ o = 58 → s2.1 v o (20 * k + w) = σ.1 v o (20 * k + w) := fun o a => by
          rw [k2 o _ (by omega) (by omega) (by omega), j2 o _ (by omega), e1 o _ (by omega) (by omega)]
        unfold aLk at g2 ⊢
        simp only [tp]
        rw [k5 56 (by decide), k5 58 (by decide)]
        exact ⟨g1, g2⟩
    · exact r7.cg (fun o i a => k3 o i (by omega) (by omega) (by omega) (by omega) (by omega) (by omega) (by omega)) (aTell_at (by omega)) (fun i j => aTell_at (by omega))
    · obtain ⟨s, g1, g2, g3⟩ := hL
      exact ⟨s, g1, by rw [aTell_at (by omega)]; exact g2, by rw [aTell_at (by omega)]; exact g3⟩
end CT

