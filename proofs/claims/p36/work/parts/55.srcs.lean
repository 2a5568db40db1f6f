/-! sources are so -/
section SR
variable {σ : zSt} {A : zAb} {n m T : Nat} {c : Int32}
theorem zm_g1 {P : Nat → Bool} {n k : Nat} (hn : n ≤ 32) (hk : k < n) : ((zm P n >>> (nI k &&& 31)) &&& (1 : Int32)) = bI (P k) := by rw [zm_get hn hk]; rfl
theorem bI_is1 (b : Bool) : bI b = (1 : Int32) ↔ b = true := by cases b <;> simp [bI]
/-- the houses that one house may owe to -/
theorem s_b7 (hC : zC σ 0 A n m c T) (G : zLA) {h w F : Nat} {x2 x5 : Int32} {K : Int32} (hh : h < n) (hw : w < m) (hr : 1 ≤ F)
    (kk : ∀ f, F ≤ f → L_Law_sourcesAreSo G σ f 3 (nI w) x2 K (zm (fun h => decide (A 4 h w = 1)) n) x5 0 0 (nI (h + 1)) 0 0 0 0 0 = some 1) :
    ∀ d o, o + d = n → ∀ f, 3 * d + 1 + F ≤ f → L_Law_sourcesAreSo G σ f 7 (nI w) x2 K (zm (fun h => decide (A 4 h w = 1)) n) x5 0 0 (nI h) (A 5 h w) 0 (aOws A n h w) 0 (nI o) = some 1 := by
  have hn := hC.hn
  intro d
  induction d with
  | zero =>
    intro o ho f hf
    obtain ⟨f, rfl⟩ : ∃ g, f = g + 1 := ⟨f - 1, by omega⟩
    have : o = n := by omega
    subst this
    rw [e_Law_sourcesAreSo_7, k_c6 hC, Option.bind_some, if_pos (nI_le0 (by omega)), nI_1]
    exact kk f (by omega)
  | succ d ih =>
    intro o ho f hf
    obtain ⟨f, rfl⟩ : ∃ g, f = g + 3 := ⟨f - 3, by omega⟩
    have ho' : o < n := by omega
    have next := ih (o + 1) (by omega) f (by omega)
    have b9 : L_Law_sourcesAreSo G σ (f + 1) 9 (nI w) x2 K (zm (fun h => decide (A 4 h w = 1)) n) x5 (bI (aOw A h o w)) 0 (nI h) (A 5 h w) 0 (aOws A n h w) 0 (nI o) = some 1 := by
      rw [e_Law_sourcesAreSo_9]
      unfold aOws
      rw [zm_g1 (by omega) ho', nI_1]
      cases q : aOw A h o w with
      | true => rw [if_pos (show bI true = (1 : Int32) by decide), if_pos (show bI true = (1 : Int32) by decide)]; exact next
      | false => rw [if_neg (show ¬ bI false = (1 : Int32) by decide), if_pos (show bI false = (0 : Int32) by decide)]; exact next
    have b8 : L_Law_sourcesAreSo G σ (f + 2) 8 (nI w) x2 K (zm (fun h => decide (A 4 h w = 1)) n) x5 (bI (decide (A 5 o w = nI h) || decide (A 5 h w = nI o))) 0 (nI h) (A 5 h w) 0 (aOws A n h w) 0 (nI o) = some 1 := by
      rw [e_Law_sourcesAreSo_8, zm_g1 (by omega) hh, zm_g1 (by omega) ho']
      have p4 := (hC.2.2.1.2.2.2.2 o w ho' hw).2.1
      have e : aOw A h o w = ((decide (A 5 o w = nI h) || decide (A 5 h w = nI o)) && (decide (A 4 h w = 1) && !decide (A 4 o w = 1))) := by
        unfold aOw
        rw [Bool.or_comm (decide (A 5 h w = nI o)), Bool.and_assoc]
        congr 2
        rcases p4 with y | y <;> rw [y] <;> decide
      rw [e] at b9
      cases q1 : (decide (A 5 o w = nI h) || decide (A 5 h w = nI o)) with
      | false =>
        rw [q1] at b9
        rw [if_pos (show bI false = (0 : Int32) by decide)]
        exact b9
      | true =>
        rw [q1] at b9
        rw [if_neg (show ¬ bI true = (0 : Int32) by decide)]
        cases q2 : decide (A 4 h w = 1) with
        | false =>
          rw [q2] at b9
          rw [if_neg (show ¬ bI false = (1 : Int32) by decide)]
          exact b9
        | true =>
          rw [q2] at b9
          rw [if_pos (show bI true = (1 : Int32) by decide)]
          cases q3 : decide (A 4 o w = 1) with
          | false =>
            rw [q3] at b9
            rw [if_pos (show bI false = (0 : Int32) by decide)]
            exact b9
          | true =>
            rw [q3] at b9
            rw [if_neg (show ¬ bI true = (0 : Int32) by decide)]
            exact b9
    rw [e_Law_sourcesAreSo_7, k_c6 hC, Option.bind_some, if_neg (nI_ge ho' (by omega)), k_src hC ho' hw, Option.bind_some]
    by_cases z1 : A 5 o w = nI h
    · rw [if_pos z1]
      rw [decide_eq_true z1, Bool.true_or] at b8
      exact b8
    · rw [if_neg z1]
      rw [decide_eq_false z1, Bool.false_or] at b8
      by_cases z2 : A 5 h w = nI o
      · rw [if_pos z2]
        rw [decide_eq_true z2] at b8
        exact b8
      · rw [if_neg z2]
        rw [decide_eq_false z2] at b8
        exact b8
theorem aG6 (hC : zC σ 0 A n m c T) (hO : aOk A n m T) {h w : Nat} (hh : h < n) (hw : w < m) : ∃ g, g ≤ 11 ∧ A 6 h w = nI g := by
  have hn := hC.hn
  have p := hC.2.2.1.2.2.2.2 h w hh hw
  rcases p.1 with y | y
  · exact ⟨0, by decide, (p.2.2.2.2.2.2.2.2.2.1 y).2⟩
  · obtain ⟨g, g1, g2⟩ := (hO.2 h w hh hw).2.2.1 y
    have := aKc_le A n w
    exact ⟨g, by omega, g1⟩
/-- the way back to the author -/
theorem s_b6 (hC : zC σ 0 A n m c T) (hO : aOk A n m T) (G : zLA) {h w F g0 : Nat} {x2 x5 x9 : Int32} {K B : Int32} (hw : w < m) (hg0 : g0 ≤ 11)
    (kk : ∀ f, F ≤ f → L_Law_sourcesAreSo G σ f 7 (nI w) x2 K B (if x5 < nI g0 then nI g0 else x5) 0 0 (nI h) (A 5 h w) 0 x9 0 0 = some 1) :
    ∀ g p, p < n → A 6 p w = nI g → g ≤ g0 → ∀ f, g + 1 + F ≤ f → L_Law_sourcesAreSo G σ f 6 (nI w) x2 K B x5 0 0 (nI h) (A 5 h w) (nI (g0 - g)) x9 0 (nI p) = some 1 := by
  have hn := hC.hn
  intro g
  induction g with
  | zero =>
    intro p hp e6 _ f hf
    obtain ⟨f, rfl⟩ : ∃ g, f = g + 1 := ⟨f - 1, by omega⟩
    have e5 : A 5 p w = -1 := by
      rcases (hC.2.2.1.2.2.2.2 p w hp hw).2.2.2.2.1 with y | ⟨s, hs, y⟩
      · exact y
      · obtain ⟨-, -, -, -, z⟩ := (hO.2 p w hp hw).1 s hs y
        obtain ⟨g1, hg1, eg1⟩ := aG6 hC hO hs hw
        rw [e6, eg1, nI_1] at z
        have := (nI_eq (by omega) (by omega)).mp z
        omega
    rw [e_Law_sourcesAreSo_6, k_src hC hp hw, Option.bind_some, e5, if_pos (show (-1 : Int32) < 0 by decide), if_pos (show nI (g0 - 0) ≤ (11 : Int32) from nI_le (b := 11) (by omega) (by decide)), Nat.sub_zero]
    exact kk f (by omega)
  | succ g ih =>
    intro p hp e6 hle f hf
    obtain ⟨f, rfl⟩ : ∃ g, f = g + 1 := ⟨f - 1, by omega⟩
    rcases (hC.2.2.1.2.2.2.2 p w hp hw).2.2.2.2.1 with y | ⟨s, hs, y⟩
    · have := (hO.2 p w hp hw).2.1 y
      rw [e6] at this
      have := (nI_eq (show g + 1 < 2 ^ 31 by omega) (show 0 < 2 ^ 31 by omega)).mp this
      omega
    · obtain ⟨-, -, -, -, z⟩ := (hO.2 p w hp hw).1 s hs y
      obtain ⟨g1, hg1, eg1⟩ := aG6 hC hO hs hw
      rw [e6, eg1, nI_1] at z
      have z := (nI_eq (by omega) (by omega)).mp z
      rw [e_Law_sourcesAreSo_6, k_src hC hp hw, Option.bind_some, y, if_neg (nI_pos (by omega)), Option.bind_some, nI_1, show g0 - (g + 1) + 1 = g0 - g by omega]
      exact ih s hs (by rw [eg1]; congr 1; omega) (by omega) f (by omega)
theorem aW24 (hI : aInv A n m T) (hO : aOk A n m T) {w : Nat} (hw : w < m) : (A 2 w 4 = -1 ∧ ∀ h, h < n → A 4 h w = 0) ∨ ∃ k, k < n ∧ A 2 w 4 = nI k ∧ A 4 k w = 1 := by
  rcases (hO.1 w hw).2 with y | y
  · exact Or.inl ⟨y, hI.2.2.2.1 w hw y⟩
  · exact Or.inr y
/-- all houses, for one news -/
theorem s_b3 (hC : zC σ 0 A n m c T) (hO : aOk A n m T) (G : zLA) {w F : Nat} (hw : w < m)
    (kk : ∀ f, F ≤ f → L_Law_sourcesAreSo G σ f 0 (nI (w + 1)) 0 0 0 0 0 0 0 0 0 0 0 0 = some 1) :
    ∀ d h, h + d = n → ∀ f, 60 * d + 1 + F ≤ f → L_Law_sourcesAreSo G σ f 3 (nI w) (A 2 w 0) (zm (fun h => decide (A 3 h w = 1)) n) (zm (fun h => decide (A 4 h w = 1)) n) (zmx (fun h => A 6 h w) h) 0 0 (nI h) 0 0 0 0 0 = some 1 := by
  have hn := hC.hn
  have hm := hC.hm
  intro d
  induction d with
  | zero =>
    intro h hd f hf
    obtain ⟨f, rfl⟩ : ∃ g, f = g + 1 := ⟨f - 1, by omega⟩
    have : h = n := by omega
    subst this
    rw [e_Law_sourcesAreSo_3, k_c6 hC, Option.bind_some, if_pos (nI_le0 (by omega)), k_w9 hC hw, Option.bind_some, if_pos rfl, nI_1]
    exact kk f (by omega)
  | succ d ih =>
    intro h hd f hf
    obtain ⟨f, rfl⟩ : ∃ g, f = g + 3 := ⟨f - 3, by omega⟩
    have hh : h < n := by omega
    have p := hC.2.2.1.2.2.2.2 h w hh hw
    obtain ⟨o1, o2, o3, o4, -⟩ := hO.2 h w hh hw
    obtain ⟨g0, hg0, eg0⟩ := aG6 hC hO hh hw
    have next := ih (h + 1) (by omega)
    have ez : zmx (fun h => A 6 h w) (h + 1) = if zmx (fun h => A 6 h w) h < nI g0 then nI g0 else zmx (fun h => A 6 h w) h := by rw [zmx, eg0]
    rw [ez] at next
    have b7 := s_b7 hC G (x2 := A 2 w 0) hh hw (Nat.le_of_lt (show 0 + 1 < 60 * d + 1 + F + 1 by omega)) (fun f hf => next f (by omega)) n 0 (by omega)
    have b6 := s_b6 hC hO G (h := h) (F := 3 * n + 1 + (60 * d + 1 + F + 1)) hw hg0 (fun f hf => b7 f hf) g0 h hh eg0 (Nat.le_refl _) f (by omega)
    rw [Nat.sub_self] at b6
    -- blocks 5, 4
    have b5 : L_Law_sourcesAreSo G σ (f + 1) 5 (nI w) (A 2 w 0) (zm (fun h => decide (A 3 h w = 1)) n) (zm (fun h => decide (A 4 h w = 1)) n) (zmx (fun h => A 6 h w) h) 0 0 (nI h) (A 5 h w) 0 (aOws A n h w) (bI (decide (A 3 h w = 1))) 0 = some 1 := by
      rw [e_Law_sourcesAreSo_5]
      by_cases q : A 3 h w = 1
      · rw [decide_eq_true q, if_neg (show ¬ bI true = (0 : Int32) by decide)]
        rcases p.2.2.2.2.1 with y | ⟨s, hs, y⟩
        · have := o4 q y
          rw [y] at b6 ⊢
          rw [if_neg (show ¬ (0 : Int32) ≤ -1 by decide), if_pos this.symm]
          exact b6
        · rw [y] at b6 ⊢
          rw [if_pos (show (0 : Int32) ≤ nI s from nI_le (a := 0) (by omega) (by omega))]
          exact b6
      · rw [decide_eq_false q, if_pos (show bI false = (0 : Int32) by decide)]
        exact b6
    have b4 : L_Law_sourcesAreSo G σ (f + 2) 4 (nI w) (A 2 w 0) (zm (fun h => decide (A 3 h w = 1)) n) (zm (fun h => decide (A 4 h w = 1)) n) (zmx (fun h => A 6 h w) h) (bI (decide (A 3 h w = 1))) 0 (nI h) (A 5 h w) 0 (aOws A n h w) 0 0 = some 1 := by
      rw [e_Law_sourcesAreSo_4, k_h10 hC hh, Option.bind_some, zm_g1 (by omega) hw, zm_g1 (by omega) hh, if_pos (show bI (aKn A h w 0) = bI (decide (A 3 h w = 1)) from rfl), k_h11 hC hh, Option.bind_some, zm_g1 (by omega) hw, zm_g1 (by omega) hh, if_pos (show bI (aKn A h w 1) = bI (decide (A 4 h w = 1)) from rfl)]
      rcases p.2.2.2.2.1 with y | ⟨s, hs, y⟩
      · rw [y] at b5 ⊢
        rw [if_pos (show (-1 : Int32) < 0 by decide)]
        exact b5
      · obtain ⟨k3, ne, rg, -, -⟩ := o1 s hs y
        rw [y] at b5 ⊢
        rw [if_neg (nI_pos (by omega)), decide_eq_true k3, if_neg (show ¬ bI true = (0 : Int32) by decide), if_neg (fun z => ne ((nI_eq (by omega) (by omega)).mp z)), k_h14 hC hs, Option.bind_some]
        unfold aNear
        rw [zm_g1 (by omega) hh, rg, if_neg (show ¬ bI true = (0 : Int32) by decide)]
        rw [decide_eq_true k3] at b5
        exact b5
    rw [e_Law_sourcesAreSo_3, k_c6 hC, Option.bind_some, if_neg (nI_ge hh (by omega)), k_src hC hh hw, Option.bind_some, k_owes hC hh hw, Option.bind_some, zm_g1 (by omega) hh]
    by_cases q : A 3 h w = 1
    · rw [decide_eq_true q] at b4 ⊢
      rw [if_pos (show bI true = (1 : Int32) by decide)]
      exact b4
    · rw [decide_eq_false q] at b4 ⊢
      rw [if_neg (show ¬ bI false = (1 : Int32) by decide)]
      exact b4
theorem l_sources (hC : zC σ 0 A n m c T) (hO : aOk A n m T) (G : zLA) : F_Law_sourcesAreSo G σ = some 1 := by
  have hn := hC.hn
  have hm := hC.hm
  have key : ∀ d w, w + d = m → ∀ f, 800 * d + 1 ≤ f → L_Law_sourcesAreSo G σ f 0 (nI w) 0 0 0 0 0 0 0 0 0 0 0 0 = some 1 := by
    intro d
    induction d with
    | zero =>
      intro w hd f hf
      obtain ⟨f, rfl⟩ : ∃ g, f = g + 1 := ⟨f - 1, by omega⟩
      have : w = m := by omega
      subst this
      rw [e_Law_sourcesAreSo_0, k_c7 hC, Option.bind_some, if_pos (nI_le0 (by omega))]
    | succ d ih =>
      intro w hd f hf
      obtain ⟨f, rfl⟩ : ∃ g, f = g + 3 := ⟨f - 3, by omega⟩
      have hw : w < m := by omega
      have b3 := s_b3 hC hO G hw (ih (w + 1) (by omega)) n 0 (by omega) f (by omega)
      obtain ⟨⟨a, ha, a1, a2, a3⟩, -⟩ := hO.1 w hw
      rw [e_Law_sourcesAreSo_0, k_c7 hC, Option.bind_some, if_neg (nI_ge hw (by omega)), k_w0 hC hw, Option.bind_some, k_w6 hC hw, Option.bind_some, k_w7 hC hw, Option.bind_some]
      rw [a1] at b3 ⊢
      rw [zm_g1 (by omega) ha, decide_eq_true a2, if_neg (show ¬ bI true = (0 : Int32) by decide), k_src hC ha hw, Option.bind_some, a3, if_pos rfl, k_w8 hC hw, Option.bind_some, k_w4 hC hw, Option.bind_some]
      rcases aW24 hC.2.2.1 hO hw with ⟨y, y4⟩ | ⟨k, hk, y, y4⟩
      · have z0 : zm (fun h => decide (A 4 h w = 1)) n = 0 := (zm_zero (by omega)).mpr (fun i hi => by rw [y4 i hi]; decide)
        have z2 : zm (fun h => aKn A h w 2) n = 0 := (zm_zero (by omega)).mpr (fun i hi => by
          unfold aKn aCor
          rw [if_neg (by decide), if_neg (by decide), decide_eq_true y]; rfl)
        rw [y, if_neg (show ¬ (0 : Int32) ≤ -1 by decide), e_Law_sourcesAreSo_1, if_pos z2, k_w4 hC hw, Option.bind_some, y, if_neg (show ¬ (0 : Int32) ≤ -1 by decide), if_pos z0, e_Law_sourcesAreSo_2, k_w4 hC hw, Option.bind_some, y, if_pos (show (-1 : Int32) < 0 by decide)]
        exact b3
      · have z2 : zm (fun h => aKn A h w 2) n = zm (fun h => decide (A 3 h w = 1)) n &&& (zm (fun h => decide (A 4 h w = 1)) n ^^^ (-1 : Int32)) := by
          rw [zm_andn (by omega)]
          refine zm_congr (fun i hi => ?_)
          have c1 : aCor A w = true := by unfold aCor; rw [y, decide_eq_false (nI_m1 (by omega))]; rfl
          unfold aKn
          rw [if_neg (by decide), if_neg (by decide), c1, Bool.true_and]
          congr 1
          rcases (hC.2.2.1.2.2.2.2 i w hi hw).2.1 with x | x <;> rw [x] <;> decide
        have p0 : (0 : Int32) ≤ nI k := nI_le (a := 0) (by omega) (by omega)
        rw [y, if_pos p0, e_Law_sourcesAreSo_1, if_pos z2, k_w4 hC hw, Option.bind_some, y, if_pos p0, e_Law_sourcesAreSo_2, k_w4 hC hw, Option.bind_some, y, if_neg (nI_pos (by omega)), Option.bind_some, zm_g1 (by omega) hk, decide_eq_true y4, if_neg (show ¬ bI true = (0 : Int32) by decide)]
        exact b3
  rw [F_Law_sourcesAreSo]
  exact key m 0 (by omega) zK (Nat.le_of_lt (zK_lt (by omega)))
end SR
