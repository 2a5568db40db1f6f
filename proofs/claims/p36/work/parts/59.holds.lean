/-! the village is built; the law holds -/
section LB
variable {σ : zSt} {A : zAb} {n m T k : Nat}
def zB (σ : zSt) (A : zAb) (h k : Nat) : Prop := (∃ c, zC σ 0 A h 0 c 0) ∧ A 0 5 0 = nI 48 ∧ A 0 0 0 = 5 ∧ A 0 1 0 = 1 ∧ A 0 3 0 = 10 ∧ A 0 4 0 = 11 ∧ zD2 σ k
theorem zB.d (h : zB σ A n k) : zB (zst σ 4 80 2 (nI (k + 1))) A n (k + 1) := by
  obtain ⟨⟨c, hC⟩, h5, h0, h1, h3, h4, hD⟩ := h
  exact ⟨⟨c, zC_d hC (by decide)⟩, h5, h0, h1, h3, h4, hD.d⟩
theorem nI_plus (a b : Nat) : nI a + nI b = nI (a + b) := nI_add a b
theorem aOk_0 : aOk A n 0 T := ⟨fun w hw => absurd hw (Nat.not_lt_zero w), fun h w _ hw => absurd hw (Nat.not_lt_zero w)⟩
theorem b_set (hB : zB σ A n k) {i x : Nat} {p : Int32} (hi : i = 0 ∨ i = 1 ∨ i = 3) (h1 : ¬ nI x < (zfv 1).getD i 0) (h2 : nI x ≤ (zfv 2).getD i 0) (hx : x < 1000) :
    ∃ A', F_Law_set (nI i) (nI x) σ = some (A 0 i 0, zst σ 0 2 i (nI x)) ∧ (∃ c, zC (zst σ 0 2 i (nI x)) 0 A' n 0 c 0) ∧ (∀ j, j ≠ i → A' 0 j 0 = A 0 j 0) ∧ zD2 (zst σ 0 2 i (nI x)) k := by
  obtain ⟨⟨c, hC⟩, h5, h0, h1', h3, h4, hD⟩ := hB
  obtain ⟨e1, hC1⟩ := k_set (k := i) (x := x) hC (by omega) h1 h2 (by omega)
  exact ⟨_, e1, ⟨c, hC1⟩, fun j hj => aup_i hj, hD.v (zfV.st 0 σ 2 i _) (by decide)⟩
/-- the settings, behind the houses -/
theorem b_end (hB : zB σ A n k) (hk : k < 2 ^ 19) (G : zLA) (hL : zLn G ≤ 260) {f N : Nat} (hN : N ≤ n) (hn : n ≤ 12) : zOk (L_Law_builds G (f + 2) 0 (nI N) (nI n) 0 0 σ) (fun q => q.1 = 1 ∧ ∃ A' k', k' ≤ k + 6 ∧ zW q.2 A' n 0 0 k') := by
  rw [e_Law_builds_0, if_pos (nI_le hN (by omega))]
  obtain ⟨-, h5, h0, h1, h3, h4, hD⟩ := id hB
  refine zOk.bd2 (l_draw G hL (n := 9) hD (by omega) (by decide) (by decide)) (fun r2 s2 ⟨⟨j, hj, e2⟩, e3⟩ => ?_)
  have e2 : r2 = nI j := e2
  have e3 : s2 = zst σ 4 80 2 (nI (k + 1)) := e3
  have B2 : zB s2 A n (k + 1) := by rw [e3]; exact hB.d
  obtain ⟨A3, x3, C3, o3, D3⟩ := b_set (p := 0) (i := 0) (x := 1 + j) B2 (by decide) (show ¬ nI (1 + j) < (1 : Int32) from nI_nlt (b := 1) (by omega) (by omega)) (show nI (1 + j) ≤ (50 : Int32) from nI_le (b := 50) (by omega) (by decide)) (by omega)
  rw [e2, show (1 : Int32) + nI j = nI (1 + j) from nI_plus 1 j]
  refine zOk.bd2 (zOk.of (show F_Law_set (0 : Int32) (nI (1 + j)) s2 = _ from x3) (P := fun q => q = (A 0 0 0, zst s2 0 2 0 (nI (1 + j)))) rfl) (fun r s3 e => ?_)
  obtain ⟨a1, a2⟩ := Prod.mk.inj e
  rw [a1, h0, if_pos rfl]
  have C3 : ∃ c, zC s3 0 A3 n 0 c 0 := by rw [a2]; exact C3
  have D3 : zD2 s3 (k + 1) := by rw [a2]; exact D3
  refine zOk.bd2 (l_draw G hL (n := 3) D3 (by omega) (by decide) (by decide)) (fun r4 s4 ⟨⟨j4, hj4, e4⟩, e5⟩ => ?_)
  have e4 : r4 = nI j4 := e4
  have e5 : s4 = zst s3 4 80 2 (nI (k + 1 + 1)) := e5
  obtain ⟨c3, C3⟩ := C3
  have C4 : zC s4 0 A3 n 0 c3 0 := by rw [e5]; exact zC_d C3 (by decide)
  have D4 : zD2 s4 (k + 1 + 1) := by rw [e5]; exact D3.d
  obtain ⟨x5, C5⟩ := k_set (k := 1) (x := j4) C4 (by decide) (show ¬ nI j4 < (0 : Int32) from nI_pos (by omega)) (show nI j4 ≤ (20 : Int32) from nI_le (b := 20) (by omega) (by decide)) (by omega)
  rw [e4]
  refine zOk.bd2 (zOk.of (show F_Law_set (1 : Int32) (nI j4) s4 = _ from x5) (P := fun q => q = (A3 0 1 0, zst s4 0 2 1 (nI j4))) rfl) (fun r s5 e => ?_)
  obtain ⟨a1, a2⟩ := Prod.mk.inj e
  rw [a1, o3 1 (by decide), h1, if_pos rfl]
  have C5 : zC s5 0 (aup A3 0 1 0 (nI j4)) n 0 c3 0 := by rw [a2]; exact C5
  have D5 : zD2 s5 (k + 1 + 1) := by rw [a2]; exact D4.v (zfV.st 0 s4 2 1 _) (by decide)
  refine zOk.bd2 (l_draw G hL (n := 40) D5 (by omega) (by decide) (by decide)) (fun r6 s6 ⟨⟨j6, hj6, e6⟩, e7⟩ => ?_)
  have e6 : r6 = nI j6 := e6
  have e7 : s6 = zst s5 4 80 2 (nI (k + 1 + 1 + 1)) := e7
  have C6 : zC s6 0 (aup A3 0 1 0 (nI j4)) n 0 c3 0 := by rw [e7]; exact zC_d C5 (by decide)
  have D6 : zD2 s6 (k + 1 + 1 + 1) := by rw [e7]; exact D5.d
  obtain ⟨x7, C7⟩ := k_set (k := 3) (x := 5 + j6) C6 (by decide) (show ¬ nI (5 + j6) < (1 : Int32) from nI_nlt (b := 1) (by omega) (by omega)) (show nI (5 + j6) ≤ (99 : Int32) from nI_le (b := 99) (by omega) (by decide)) (by omega)
  rw [e6, show (5 : Int32) + nI j6 = nI (5 + j6) from nI_plus 5 j6]
  refine zOk.bd2 (zOk.of (show F_Law_set (3 : Int32) (nI (5 + j6)) s6 = _ from x7) (P := fun q => q = (aup A3 0 1 0 (nI j4) 0 3 0, zst s6 0 2 3 (nI (5 + j6)))) rfl) (fun r s7 e => ?_)
  obtain ⟨a1, a2⟩ := Prod.mk.inj e
  rw [a1, aup_i (by decide), o3 3 (by decide), h3, if_pos rfl]
  have C7 : zC s7 0 (aup (aup A3 0 1 0 (nI j4)) 0 3 0 (nI (5 + j6))) n 0 c3 0 := by rw [a2]; exact C7
  have D7 : zD2 s7 (k + 1 + 1 + 1) := by rw [a2]; exact D6.v (zfV.st 0 s6 2 3 _) (by decide)
  have v4 : aup (aup A3 0 1 0 (nI j4)) 0 3 0 (nI (5 + j6)) 0 4 0 = 11 := by rw [aup_i (by decide), aup_i (by decide), o3 4 (by decide), h4]
  -- the last setting: HOPS; zB but for three settings is not needed there
  have last : ∀ y s8 k8, y ≤ 11 → zC s8 0 (aup (aup A3 0 1 0 (nI j4)) 0 3 0 (nI (5 + j6))) n 0 c3 0 → zD2 s8 k8 → k8 ≤ k + 5 → zOk (L_Law_builds G (f + 1) 1 0 0 (4 : Int32) (nI y) s8) (fun q => q.1 = 1 ∧ ∃ A' k', k' ≤ k + 6 ∧ zW q.2 A' n 0 0 k') := by
    intro y s8 k8 hy hC8 hD8 hk8
    rw [e_Law_builds_1]
    obtain ⟨e1, hC1⟩ := k_set (k := 4) (x := y) hC8 (by decide) (show ¬ nI y < (0 : Int32) from nI_pos (by omega)) (show nI y ≤ (11 : Int32) from nI_le (b := 11) hy (by decide)) (by omega)
    refine zOk.bd2 (zOk.of (show F_Law_set (4 : Int32) (nI y) s8 = _ from e1) (P := fun q => q = (aup (aup A3 0 1 0 (nI j4)) 0 3 0 (nI (5 + j6)) 0 4 0, zst s8 0 2 4 (nI y))) rfl) (fun r s1 e => ?_)
    obtain ⟨a1, a2⟩ := Prod.mk.inj e
    rw [a1, v4, if_pos rfl]
    have hC1 : zC s1 0 (aup (aup (aup A3 0 1 0 (nI j4)) 0 3 0 (nI (5 + j6))) 0 4 0 (nI y)) n 0 c3 0 := by rw [a2]; exact hC1
    have hD1 : zD2 s1 k8 := by rw [a2]; exact hD8.v (zfV.st 0 s8 2 4 _) (by decide)
    refine zOk.bd2 (l_draw G hL (n := 1000003) hD1 (by omega) (by decide) (by decide)) (fun r2 s2 ⟨⟨j, hj, e2⟩, e3⟩ => ?_)
    have e2 : r2 = nI j := e2
    have e3 : s2 = zst s1 4 80 2 (nI (k8 + 1)) := e3
    have hC2 : zC s2 0 (aup (aup (aup A3 0 1 0 (nI j4)) 0 3 0 (nI (5 + j6))) 0 4 0 (nI y)) n 0 c3 0 := by rw [e3]; exact zC_d hC1 (by decide)
    have hD2 : zD2 s2 (k8 + 1) := by rw [e3]; exact hD1.d
    obtain ⟨e4, hC4⟩ := k_seed (x := j) hC2 (by omega)
    rw [e2]
    refine zOk.bd2 (zOk.of e4 (P := fun q => q = ((0 : Int32), zst s2 0 0 2 (nI j))) rfl) (fun r s4 e => ?_)
    obtain ⟨b1, b2⟩ := Prod.mk.inj e
    rw [if_pos b1]
    refine ⟨_, rfl, rfl, aup (aup (aup (aup A3 0 1 0 (nI j4)) 0 3 0 (nI (5 + j6))) 0 4 0 (nI y)) 0 9 0 (nI j), k8 + 1, by omega, ⟨c3, ?_⟩, aOk_0, ?_⟩
    · show zC s4 0 _ n 0 c3 0
      rw [b2]; exact hC4
    · show zD2 s4 (k8 + 1)
      rw [b2]; exact hD2.v (zfV.st 0 s2 0 2 _) (by decide)
  refine zOk.bd2 (l_draw G hL (n := 4) D7 (by omega) (by decide) (by decide)) (fun r8 s8 ⟨⟨j8, hj8, e8⟩, e9⟩ => ?_)
  have e9 : s8 = zst s7 4 80 2 (nI (k + 1 + 1 + 1 + 1)) := e9
  have C8 : zC s8 0 (aup (aup A3 0 1 0 (nI j4)) 0 3 0 (nI (5 + j6))) n 0 c3 0 := by rw [e9]; exact zC_d C7 (by decide)
  have D8 : zD2 s8 (k + 1 + 1 + 1 + 1) := by rw [e9]; exact D7.d
  by_cases q8 : r8 = 0
  · rw [if_pos q8]
    refine zOk.bd2 (l_draw G hL (n := 4) D8 (by omega) (by decide) (by decide)) (fun r9 s9 ⟨⟨j9, hj9, e10⟩, e11⟩ => ?_)
    have e10 : r9 = nI j9 := e10
    have e11 : s9 = zst s8 4 80 2 (nI (k + 1 + 1 + 1 + 1 + 1)) := e11
    rw [e10]
    exact last j9 s9 (k + 1 + 1 + 1 + 1 + 1) (by omega) (by rw [e11]; exact zC_d C8 (by decide)) (by rw [e11]; exact D8.d) (by omega)
  · rw [if_neg q8]
    exact last 11 s8 (k + 1 + 1 + 1 + 1) (by decide) C8 D8 (by omega)
/-- one house -/
theorem b_house (hB : zB σ A n k) (hk : k < 2 ^ 19) (G : zLA) (hL : zLn G ≤ 260) {f N : Nat} (hN : n < N) (hn : N ≤ 12) {Q : Int32 × zSt → Prop}
    (kk : ∀ τ A' k', k' ≤ k + 8 → zB τ A' (n + 1) k' → zOk (L_Law_builds G f 0 (nI N) (nI (n + 1)) 0 0 τ) Q) : zOk (L_Law_builds G (f + 1) 0 (nI N) (nI n) 0 0 σ) Q := by
  rw [e_Law_builds_0, if_neg (nI_ge hN (by omega))]
  refine zOk.bd2 (l_draw G hL (n := 40) hB.2.2.2.2.2.2 (by omega) (by decide) (by decide)) (fun r1 s1 ⟨⟨j1, hj1, a1⟩, b1⟩ => ?_)
  have a1 : r1 = nI j1 := a1
  have b1 : s1 = zst σ 4 80 2 (nI (k + 1)) := b1
  have B1 : zB s1 A n (k + 1) := by rw [b1]; exact hB.d
  refine zOk.bd2 (l_draw G hL (n := 40) B1.2.2.2.2.2.2 (by omega) (by decide) (by decide)) (fun r2 s2 ⟨⟨j2, hj2, a2⟩, b2⟩ => ?_)
  have a2 : r2 = nI j2 := a2
  have b2 : s2 = zst s1 4 80 2 (nI (k + 1 + 1)) := b2
  have B2 : zB s2 A n (k + 1 + 1) := by rw [b2]; exact B1.d
  refine zOk.bd2 (l_draw G hL (n := 40) B2.2.2.2.2.2.2 (by omega) (by decide) (by decide)) (fun r3 s3 ⟨⟨j3, hj3, a3⟩, b3⟩ => ?_)
  have a3 : r3 = nI j3 := a3
  have b3 : s3 = zst s2 4 80 2 (nI (k + 1 + 1 + 1)) := b3
  have B3 : zB s3 A n (k + 1 + 1 + 1) := by rw [b3]; exact B2.d
  refine zOk.bd2 (l_draw G hL (n := 900) B3.2.2.2.2.2.2 (by omega) (by decide) (by decide)) (fun r4 s4 ⟨⟨j4, hj4, a4⟩, b4⟩ => ?_)
  have a4 : r4 = nI j4 := a4
  have b4 : s4 = zst s3 4 80 2 (nI (k + 1 + 1 + 1 + 1)) := b4
  have B4 : zB s4 A n (k + 1 + 1 + 1 + 1) := by rw [b4]; exact B3.d
  refine zOk.bd2 (l_draw G hL (n := 9) B4.2.2.2.2.2.2 (by omega) (by decide) (by decide)) (fun r5 s5 ⟨⟨j5, hj5, a5⟩, b5⟩ => ?_)
  have a5 : r5 = nI j5 := a5
  have b5 : s5 = zst s4 4 80 2 (nI (k + 1 + 1 + 1 + 1 + 1)) := b5
  have B5 : zB s5 A n (k + 1 + 1 + 1 + 1 + 1) := by rw [b5]; exact B4.d
  obtain ⟨⟨c, C5⟩, h5, h0, h1, h3, h4, D5⟩ := B5
  rw [a1, a2, a3, a4, a5, show (30 : Int32) + nI j1 = nI (30 + j1) from nI_plus 30 j1, show (30 : Int32) + nI j2 = nI (30 + j2) from nI_plus 30 j2, show (10 : Int32) + nI j3 = nI (10 + j3) from nI_plus 10 j3, show (100 : Int32) + nI j4 = nI (100 + j4) from nI_plus 100 j4, show (1 : Int32) + nI j5 = nI (1 + j5) from nI_plus 1 j5]
  refine zOk.bd2 (k_addHouse C5 (by omega) (x := 30 + j1) (y := 30 + j2) (r := 10 + j3) (b := 100 + j4) (s := 1 + j5) (by omega) (by omega) (by omega) (by omega) (by omega)) (fun r6 s6 ⟨g1, g2, g3⟩ => ?_)
  have g1 : r6 = nI n := g1
  have g3 : zfV 0 s5 s6 := g3
  generalize hA' : aHouse A n (nI (30 + j1)) (nI (30 + j2)) (nI (10 + j3)) (nI (100 + j4)) (nI (1 + j5)) = A' at g2
  have g2 : zC s6 0 A' (n + 1) 0 c 0 := g2
  have o0 : ∀ i, i ≠ 6 → A' 0 i 0 = A 0 i 0 := fun i hi => by rw [← hA']; exact aHo_at (Or.inr (Or.inr (Or.inl ⟨rfl, hi⟩)))
  have B6 : zB s6 A' (n + 1) (k + 1 + 1 + 1 + 1 + 1) := ⟨⟨c, g2⟩, by rw [o0 5 (by decide)]; exact h5, by rw [o0 0 (by decide)]; exact h0, by rw [o0 1 (by decide)]; exact h1, by rw [o0 3 (by decide)]; exact h3, by rw [o0 4 (by decide)]; exact h4, D5.v g3 (by decide)⟩
  rw [if_pos g1]
  refine zOk.bd2 (l_draw G hL (n := 3) B6.2.2.2.2.2.2 (by omega) (by decide) (by decide)) (fun r7 s7 ⟨⟨j7, hj7, a7⟩, b7⟩ => ?_)
  have b7 : s7 = zst s6 4 80 2 (nI (k + 1 + 1 + 1 + 1 + 1 + 1)) := b7
  have B7 : zB s7 A' (n + 1) (k + 1 + 1 + 1 + 1 + 1 + 1) := by rw [b7]; exact B6.d
  by_cases q7 : r7 = 0
  · rw [if_pos q7]
    refine zOk.bd2 (l_draw G hL (n := 48) B7.2.2.2.2.2.2 (by omega) (by decide) (by decide)) (fun r8 s8 ⟨⟨j8, hj8, a8⟩, b8⟩ => ?_)
    have a8 : r8 = nI j8 := a8
    have b8 : s8 = zst s7 4 80 2 (nI (k + 1 + 1 + 1 + 1 + 1 + 1 + 1)) := b8
    have B8 : zB s8 A' (n + 1) (k + 1 + 1 + 1 + 1 + 1 + 1 + 1) := by rw [b8]; exact B7.d
    refine zOk.bd2 (l_draw G hL (n := 48) B8.2.2.2.2.2.2 (by omega) (by decide) (by decide)) (fun r9 s9 ⟨⟨j9, hj9, a9⟩, b9⟩ => ?_)
    have a9 : r9 = nI j9 := a9
    have b9 : s9 = zst s8 4 80 2 (nI (k + 1 + 1 + 1 + 1 + 1 + 1 + 1 + 1)) := b9
    have B9 : zB s9 A' (n + 1) (k + 1 + 1 + 1 + 1 + 1 + 1 + 1 + 1) := by rw [b9]; exact B8.d
    obtain ⟨⟨c9, C9⟩, i5, i0, i1, i3, i4, D9⟩ := B9
    obtain ⟨eq, Cq⟩ := k_quiet (h := n) (x := j8) (y := j9) C9 (by omega) i5 hj8 hj9
    rw [a8, a9]
    refine zOk.bd2 (zOk.of eq (P := fun q => q = ((0 : Int32), zst (zst s9 0 15 n (nI j8)) 0 17 n (nI j9))) rfl) (fun r10 s10 e => ?_)
    obtain ⟨e1, e2⟩ := Prod.mk.inj e
    rw [if_pos e1, nI_1]
    refine kk s10 _ (k + 1 + 1 + 1 + 1 + 1 + 1 + 1 + 1) (by omega) ⟨⟨c9, by rw [e2]; exact Cq⟩, by rw [aup_f (by decide), aup_f (by decide)]; exact i5, by rw [aup_f (by decide), aup_f (by decide)]; exact i0, by rw [aup_f (by decide), aup_f (by decide)]; exact i1, by rw [aup_f (by decide), aup_f (by decide)]; exact i3, by rw [aup_f (by decide), aup_f (by decide)]; exact i4, ?_⟩
    rw [e2]
    exact (D9.v (zfV.st 0 s9 15 n _) (by decide)).v (zfV.st 0 _ 17 n _) (by decide)
  · rw [if_neg q7, nI_1]
    exact kk s7 A' _ (by omega) B7
theorem l_builds (hB : zB σ A 0 k) (hk : k < 2 ^ 18) (G : zLA) (hL : zLn G ≤ 260) : zOk (F_Law_builds G σ) (fun q => q.1 = 1 ∧ ∃ A' n k', 2 ≤ n ∧ k' ≤ k + 110 ∧ zW q.2 A' n 0 0 k') := by
  rw [F_Law_builds]
  refine zOk.bd2 (l_draw G hL (n := 11) hB.2.2.2.2.2.2 (by omega) (by decide) (by decide)) (fun r1 s1 ⟨⟨j, hj, a1⟩, b1⟩ => ?_)
  have a1 : r1 = nI j := a1
  have b1 : s1 = zst σ 4 80 2 (nI (k + 1)) := b1
  have B1 : zB s1 A 0 (k + 1) := by rw [b1]; exact hB.d
  rw [a1, show (2 : Int32) + nI j = nI (2 + j) from nI_plus 2 j]
  have loop : ∀ d i τ B ki f, i + d = 2 + j → zB τ B i ki → ki ≤ k + 1 + 8 * i → d + 2 ≤ f → zOk (L_Law_builds G f 0 (nI (2 + j)) (nI i) 0 0 τ) (fun q => q.1 = 1 ∧ ∃ A' n k', 2 ≤ n ∧ k' ≤ k + 110 ∧ zW q.2 A' n 0 0 k') := by
    intro d
    induction d with
    | zero =>
      intro i τ B ki f hd hBi hki hf
      obtain ⟨f, rfl⟩ : ∃ g, f = g + 2 := ⟨f - 2, by omega⟩
      exact (b_end hBi (by omega) G hL (by omega) (by omega)).mono (fun q ⟨x, A', k', y, z⟩ => ⟨x, A', i, k', by omega, by omega, z⟩)
    | succ d ih =>
      intro i τ B ki f hd hBi hki hf
      obtain ⟨f, rfl⟩ : ∃ g, f = g + 1 := ⟨f - 1, by omega⟩
      exact b_house hBi (by omega) G hL (by omega) (by omega) (fun τ2 A' k' h1 h2 => ih (i + 1) τ2 A' k' f (by omega) h2 (by omega) (by omega))
  exact loop (2 + j) 0 s1 A (k + 1) zK (by omega) B1 (by omega) (Nat.le_of_lt (zK_lt (by omega)))
theorem nI_mod (a d : Nat) (ha : a < 100) (h0 : 0 < d) (hd : d < 100) : nI a - nI a / nI d * nI d = nI (a % d) := pk_rem (by omega) h0 (by omega)
theorem lw_holds (hB : zB (zst σ 4 80 1 1) A 0 0) (G : zLA) (hL : zLn G ≤ 260) : zOk (F_Law_holds G σ) (fun q => q.1 = 1) := by
  rw [F_Law_holds]
  refine zOk.bd2 (l_builds hB (by decide) G hL) (fun r0 s0 ⟨g0, A0, n, k0, hn2, hk0, W0⟩ => ?_)
  have g0 : r0 = 1 := g0
  have W0 : zW s0 A0 n 0 0 k0 := W0
  rw [if_neg (show ¬ r0 = 0 by rw [g0]; decide)]
  have loop : ∀ d i τ B m k f, i + d = 60 → zW τ B n m i k → k ≤ 110 + 20 * i → 4 * d + 1 ≤ f → zOk (L_Law_holds G f 0 (nI i) τ) (fun q => q.1 = 1) := by
    intro d
    induction d with
    | zero =>
      intro i τ B m k f hd W hk hf
      obtain ⟨f, rfl⟩ : ∃ g, f = g + 1 := ⟨f - 1, by omega⟩
      obtain ⟨⟨c, hC⟩, hO, hD⟩ := id W
      rw [e_Law_holds_0, if_pos (show (60 : Int32) ≤ nI i from nI_le (a := 60) (by omega) (by omega)), l_sources hC hO G, Option.bind_some, if_neg (show ¬ (1 : Int32) = 0 by decide), l_queues hC hO G, Option.bind_some, if_neg (show ¬ (1 : Int32) = 0 by decide)]
      refine zOk.bd2 (l_foretells W (by omega) (by omega) G hL) (fun r s1 ⟨h1, _⟩ => ?_)
      have h1 : r = 1 := h1
      rw [if_neg (show ¬ r = 0 by rw [h1]; decide)]
      have e : F_Law_runX (501 : Int32) s1 = some ((-102 : Int32), s1) := by
        rw [F_Law_runX, F_Waves_runX, F_Waves_checkWithinX, if_neg (by decide), if_neg (by decide)]
        rfl
      refine zOk.bd2 (zOk.of e (P := fun q => q = ((-102 : Int32), s1)) rfl) (fun r9 s9 e9 => ?_)
      obtain ⟨a9, b9⟩ := Prod.mk.inj e9
      rw [a9, if_pos rfl]
      exact ⟨_, rfl, rfl⟩
    | succ d ih =>
      intro i τ B m k f hd W hk hf
      obtain ⟨f, rfl⟩ : ∃ g, f = g + 4 := ⟨f - 4, by omega⟩
      have hi : i < 60 := by omega
      -- block 3
      have b3 : ∀ s A' m' k', zW s A' n m' (i + 1) k' → k' ≤ k + 19 → zOk (L_Law_holds G (f + 1) 3 (nI i) s) (fun q => q.1 = 1) := by
        intro s A' m' k' W' hk'
        rw [e_Law_holds_3, show nI i - nI i / (23 : Int32) * (23 : Int32) = nI (i % 23) from nI_mod i 23 (by omega) (by decide) (by decide)]
        by_cases q : nI (i % 23) = (17 : Int32)
        · rw [if_pos q]
          refine zOk.bd2 (l_tries W' (by omega) (by omega) G hL) (fun r s2 ⟨h1, h2⟩ => ?_)
          have h1 : r = 1 := h1
          rw [if_neg (show ¬ r = 0 by rw [h1]; decide), nI_1]
          exact ih (i + 1) s2 A' m' (k' + 1) f (by omega) h2 (by omega) (by omega)
        · rw [if_neg q, nI_1]
          exact ih (i + 1) s A' m' k' f (by omega) W' (by omega) (by omega)
      -- block 2
      have b2 : ∀ s A' m' k', zW s A' n m' (i + 1) k' → k' ≤ k + 17 → zOk (L_Law_holds G (f + 2) 2 (nI i) s) (fun q => q.1 = 1) := by
        intro s A' m' k' W' hk'
        obtain ⟨⟨c, hC⟩, hO, hD⟩ := id W'
        have fore : zOk (if nI (i % 19) = (12 : Int32) then (bd2 (F_Law_foretells G s) fun r49 σ50 => if r49 = 0 then some ((0 : Int32), σ50) else L_Law_holds G (f + 1) 3 (nI i) σ50) else L_Law_holds G (f + 1) 3 (nI i) s) (fun q => q.1 = 1) := by
          by_cases q : nI (i % 19) = (12 : Int32)
          · rw [if_pos q]
            refine zOk.bd2 (l_foretells W' (by omega) (by omega) G hL) (fun r s2 ⟨h1, k2, h2, h3⟩ => ?_)
            have h1 : r = 1 := h1
            rw [if_neg (show ¬ r = 0 by rw [h1]; decide)]
            exact b3 s2 A' m' k2 h3 (by omega)
          · rw [if_neg q]
            exact b3 s A' m' k' W' (by omega)
        rw [e_Law_holds_2, show nI i - nI i / (9 : Int32) * (9 : Int32) = nI (i % 9) from nI_mod i 9 (by omega) (by decide) (by decide), show nI i - nI i / (19 : Int32) * (19 : Int32) = nI (i % 19) from nI_mod i 19 (by omega) (by decide) (by decide)]
        by_cases q : nI (i % 9) = (4 : Int32)
        · rw [if_pos q, l_sources hC hO G, Option.bind_some, if_neg (show ¬ (1 : Int32) = 0 by decide), l_queues hC hO G, Option.bind_some, if_neg (show ¬ (1 : Int32) = 0 by decide)]
          exact fore
        · rw [if_neg q]
          exact fore
      -- block 1
      have b1 : ∀ s A' m' k', zW s A' n m' i k' → k' ≤ k + 10 → zOk (L_Law_holds G (f + 3) 1 (nI i) s) (fun q => q.1 = 1) := by
        intro s A' m' k' W' hk'
        obtain ⟨⟨c, hC⟩, hO, hD⟩ := W'
        rw [e_Law_holds_1]
        refine zOk.bd2 (l_minute hC (by omega) G) (fun r s2 ⟨h1, h2, h3⟩ => ?_)
        have h1 : r = 1 := h1
        have h2 : zC s2 0 (aMin A' n m') n m' c (i + 1) := h2
        have h3 : zfX s s2 := h3
        have W2 : zW s2 (aMin A' n m') n m' (i + 1) k' := ⟨⟨c, h2⟩, aOk_min hC.2.2.1 hO, hD.x h3⟩
        have hn := h2.hn
        rw [if_neg (show ¬ r = 0 by rw [h1]; decide)]
        refine zOk.bd2 (l_draw G hL (n := 6) W2.2.2 (by omega) (by decide) (by decide)) (fun r3 s3 ⟨_, e3⟩ => ?_)
        have e3 : s3 = zst s2 4 80 2 (nI (k' + 1)) := e3
        have W3 : zW s3 (aMin A' n m') n m' (i + 1) (k' + 1) := by rw [e3]; exact W2.d
        by_cases q : r3 = 0
        · obtain ⟨c3, hC3⟩ := W3.1
          rw [if_pos q, k_c6 hC3, Option.bind_some]
          refine zOk.bd2 (l_draw G hL (n := n) W3.2.2 (by omega) (by omega) (by omega)) (fun r4 s4 ⟨⟨h, hh, e4⟩, e5⟩ => ?_)
          have e4 : r4 = nI h := e4
          have e5 : s4 = zst s3 4 80 2 (nI (k' + 1 + 1)) := e5
          have W4 : zW s4 (aMin A' n m') n m' (i + 1) (k' + 1 + 1) := by rw [e5]; exact W3.d
          refine zOk.bd2 (l_draw G hL (n := 99) W4.2.2 (by omega) (by decide) (by decide)) (fun r6 s6 ⟨⟨x, hx, e6⟩, e7⟩ => ?_)
          have e6 : r6 = nI x := e6
          have e7 : s6 = zst s4 4 80 2 (nI (k' + 1 + 1 + 1)) := e7
          have W6 : zW s6 (aMin A' n m') n m' (i + 1) (k' + 1 + 1 + 1) := by rw [e7]; exact W4.d
          obtain ⟨⟨c6, hC6⟩, hO6, hD6⟩ := W6
          rw [e4, e6]
          refine zOk.bd2 (k_charge hC6 hh (x := x) (by omega)) (fun r7 s7 ⟨⟨b, hb, g1, g2⟩, g3⟩ => ?_)
          have g1 : r7 = nI b := g1
          have g2 : zC s7 0 (aup (aMin A' n m') 1 h 3 (nI b)) n m' c6 (i + 1) := g2
          have g3 : zfV 0 s6 s7 := g3
          rw [g1, if_pos (show (0 : Int32) ≤ nI b from nI_le (a := 0) (by omega) (by omega))]
          refine b2 s7 _ m' (k' + 1 + 1 + 1) ⟨⟨c6, g2⟩, ?_, hD6.v g3 (by decide)⟩ (by omega)
          exact aOk_cg hO6 (Nat.le_refl _) (fun s' h' => aRng_cg (fun i j hj => aup_j (by omega)) s' h') (fun w => ⟨aup_f (by decide), aup_f (by decide)⟩) (fun f i j a b => aup_f (by omega))
        · rw [if_neg q]
          exact b2 s3 _ m' (k' + 1) W3 (by omega)
      obtain ⟨⟨c, hC⟩, hO, hD⟩ := id W
      rw [e_Law_holds_0, if_neg (show ¬ (60 : Int32) ≤ nI i from nI_ge (b := 60) hi (by decide))]
      refine zOk.bd2 (l_draw G hL (n := 4) hD (by omega) (by decide) (by decide)) (fun r1 s1 ⟨_, e1⟩ => ?_)
      have e1 : s1 = zst τ 4 80 2 (nI (k + 1)) := e1
      have W1 : zW s1 B n m i (k + 1) := by rw [e1]; exact W.d
      by_cases q : r1 = 0
      · rw [if_pos q]
        refine zOk.bd2 (l_says W1 (by omega) (by omega) G hL) (fun r2 s2 ⟨h1, A', m', k', h2, h3⟩ => ?_)
        have h1 : r2 = 1 := h1
        rw [if_neg (show ¬ r2 = 0 by rw [h1]; decide)]
        exact b1 s2 A' m' k' h3 (by omega)
      · rw [if_neg q]
        exact b1 s1 B m (k + 1) W1 (by omega)
  exact loop 60 0 s0 A0 0 k0 zK (by omega) W0 (by omega) (Nat.le_of_lt (zK_lt (by omega)))
end LB
