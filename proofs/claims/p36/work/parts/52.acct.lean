/-! the accounts of a minute -/
theorem zs_subz (f g : Nat → Int32) : ∀ n, zs f n - zs g n = zs (fun k => f k - g k) n
  | 0 => by show (0 : Int32) - 0 = 0; decide
  | n + 1 => by
    rw [zs, zs, zs, ← zs_subz f g n]
    grind
theorem zs_zero : ∀ n, zs (fun _ => (0 : Int32)) n = 0
  | 0 => rfl
  | n + 1 => by rw [zs, zs_zero n]; rfl
theorem zs_swap (f : Nat → Nat → Int32) (m : Nat) : ∀ n, zs (fun w => zs (fun h => f h w) n) m = zs (fun h => zs (fun w => f h w) m) n
  | 0 => zs_zero m
  | n + 1 => by
    show zs (fun w => zs (fun h => f h w) n + f n w) m = zs (fun h => zs (fun w => f h w) m) n + zs (fun w => f n w) m
    rw [← zs_swap f m n, zs_add]
theorem zs_hd (hd : Nat → Bool) (f : Nat → Int32) (x : Int32) : ∀ k, zs (fun h => if hd h = true then f h - x else f h) k = zs f k - x * nI (fb_ct hd k)
  | 0 => by
    show (0 : Int32) = 0 - x * 0
    grind
  | k + 1 => by
    have e : fb_ct hd (k + 1) = fb_ct hd k + (if hd k = true then 1 else 0) := rfl
    rw [zs, zs, zs_hd hd f x k, e]
    by_cases q : hd k = true
    · rw [if_pos q, if_pos q, ← nI_1]
      grind
    · rw [if_neg q, if_neg q, Nat.add_zero]
      grind
section AC
variable {A : zAb} {n m T : Nat}
theorem aLearn_13 {h w i j : Nat} : aLearn A n h w 13 i j = A 13 i j := by
  unfold aLearn
  split
  · rw [aup_f (by decide), aup_f (by decide)]
  · rw [aup_f (by decide), aup_f (by decide), aup_f (by decide), aup_f (by decide)]
theorem aGet_13 {s w h i j : Nat} {hops : Int32} : aGet A s w h hops 13 i j = A 13 i j := by
  unfold aGet
  split
  · rw [aup_f (by decide), aup_f (by decide), aup_f (by decide)]
  · rw [aup_f (by decide), aup_f (by decide), aup_f (by decide), aup_f (by decide), aup_f (by decide), aup_f (by decide)]
theorem aTake_13 {s w h : Nat} {c : Bool} {hops : Int32} : aTake A n s w c hops h 13 21 0 + aTake A n s w c hops h 13 22 0 = A 13 21 0 + A 13 22 0 + 1 := by
  unfold aTake
  cases c with
  | true => rw [if_pos rfl, aup_i (show (21 : Nat) ≠ 22 by decide), aup_s, aLearn_13]; grind
  | false => rw [if_neg (by decide), aup_s, aup_i (show (22 : Nat) ≠ 21 by decide), aGet_13]; grind
theorem aPr_cnt {s w : Nat} {c : Bool} {hops : Int32} {hd : Nat → Bool} : ∀ k, aPr A n s w c hops hd k 13 21 0 + aPr A n s w c hops hd k 13 22 0 = A 13 21 0 + A 13 22 0 + nI (fb_ct (fun j => hd j && aTk (aPr A n s w c hops hd j) c w j) k)
  | 0 => by
    show A 13 21 0 + A 13 22 0 = A 13 21 0 + A 13 22 0 + 0
    grind
  | k + 1 => by
    have ih := aPr_cnt (s := s) (w := w) (c := c) (hops := hops) (hd := hd) k
    have e : fb_ct (fun j => hd j && aTk (aPr A n s w c hops hd j) c w j) (k + 1) = fb_ct (fun j => hd j && aTk (aPr A n s w c hops hd j) c w j) k + (if (hd k && aTk (aPr A n s w c hops hd k) c w k) = true then 1 else 0) := rfl
    have e2 : aPr A n s w c hops hd (k + 1) = if (hd k && aTk (aPr A n s w c hops hd k) c w k) = true then aTake (aPr A n s w c hops hd k) n s w c hops k else aPr A n s w c hops hd k := rfl
    rw [e, e2]
    by_cases q : (hd k && aTk (aPr A n s w c hops hd k) c w k) = true
    · rw [if_pos q, if_pos q, aTake_13, ih, ← nI_1]
      grind
    · rw [if_neg q, if_neg q, ih, Nat.add_zero]
theorem aSpk_f1 {s w h j : Nat} {c : Bool} : aSpeak A n s w c 1 h j = aSd (aSp A s) (aHd A s) n 1 h j := by
  have e : aEn A n s w c 1 h j = aSd (aSp A s) (aHd A s) n 1 h j := by unfold aEn; exact aPr_out (Or.inl (by decide))
  rw [aSpeak_eq]
  split
  · rw [aup_f (by decide), aNote, if_neg (by omega), if_neg (by omega), e]
  · rw [aup_f (by decide), aNote, if_neg (by omega), if_neg (by omega), e]
theorem aSpk_13 {s w i : Nat} {c : Bool} : aSpeak A n s w c 13 i 0 = aEn A n s w c 13 i 0 := by
  rw [aSpeak_eq]
  split
  · rw [aup_f (by decide), aNote, if_neg (by omega), if_neg (by omega)]
  · rw [aup_f (by decide), aNote, if_neg (by omega), if_neg (by omega)]
theorem aSpk_23 {s w : Nat} {c : Bool} : aSpeak A n s w c 13 23 0 = A 13 23 0 + A 0 0 0 + A 0 1 0 * nI (fb_ct (aHd A s) n) := by
  have a1 : aSp A s 13 23 0 = A 13 23 0 + A 0 0 0 := by simp [aSp, aup]
  have a2 : aSp A s 0 1 0 = A 0 1 0 := by simp [aSp, aup]
  rw [aSpk_13]
  unfold aEn
  rw [aPr_sd, aCb, if_pos (Or.inr ⟨rfl, rfl⟩), aSd, if_neg (by omega), if_pos ⟨rfl, rfl, rfl⟩, a1, a2]
/-- who takes of what is sent -/
def aTo (A : zAb) (n s w : Nat) (c : Bool) (k : Nat) : Bool := aHd A s k && aTk (aPr (aSd (aSp A s) (aHd A s) n) n s w c (A 9 s w + 1) (aHd A s) k) c w k
theorem aSpk_cnt {s w : Nat} {c : Bool} : aSpeak A n s w c 13 21 0 + aSpeak A n s w c 13 22 0 = A 13 21 0 + A 13 22 0 + nI (fb_ct (aTo A n s w c) n) := by
  have a1 : ∀ i, i = 21 ∨ i = 22 → aSd (aSp A s) (aHd A s) n 13 i 0 = A 13 i 0 := fun i hi => by
    rw [aSd, if_neg (by omega), if_neg (by omega)]
    unfold aSp
    rw [aup_i (by omega), aup_f (by decide), aup_f (by decide), aup_f (by decide), aup_f (by decide)]
  rw [aSpk_13, aSpk_13]
  unfold aEn
  rw [aPr_cnt, a1 21 (by decide), a1 22 (by decide)]
  rfl
theorem aSpk_bat {s w : Nat} {c : Bool} (hs : s < n) : zs (fun h => aSpeak A n s w c 1 h 3) n = zs (fun h => A 1 h 3) n - A 0 0 0 - A 0 1 0 * nI (fb_ct (aHd A s) n) := by
  have a2 : aSp A s 0 1 0 = A 0 1 0 := by simp [aSp, aup]
  have e : ∀ h, h < n → aSpeak A n s w c 1 h 3 = if aHd A s h = true then aSp A s 1 h 3 - A 0 1 0 else aSp A s 1 h 3 := fun h hh => by
    rw [aSpk_f1, aSd]
    by_cases q : aHd A s h = true
    · rw [if_pos ⟨rfl, hh, rfl, q⟩, if_pos q, a2]
    · rw [if_neg (fun z => q z.2.2.2), if_neg (by omega), if_neg q]
  have u : zs (fun h => aSp A s 1 h 3) n = zs (fun h => A 1 h 3) n + (0 - A 0 0 0) := zs_up (i := s) (by simp [aSp, aup]; grind) (fun k hk => by simp [aSp, aup, hk]) hs
  rw [zs_cong e, zs_hd, u]
  grind
theorem aPaid_at {f i j : Nat} (h : f ≠ 10) : aPaid A n m f i j = A f i j := by rw [aPaid, if_neg (fun z => h z.1)]
theorem mn_bat (hI : aInv A n m T) : zs (fun h => aBegin A n 1 h 3) n - zs (fun h => aMin A n m 1 h 3) n = aMin A n m 13 23 0 - A 13 23 0 := by
  rcases aMin_c hI with ⟨-, e⟩ | ⟨D, s, e, I2, eD, -, -, hs, -, ef, hb, em⟩
  · rw [e, zs_cong (f := fun h => aup (aPaid (aBegin A n) n m) 0 8 0 (A 0 8 0 + 1) 1 h 3) (g := fun h => aBegin A n 1 h 3) (fun h _ => by rw [aup_f (by decide), aPaid_at (by decide)]), aup_f (by decide), aPaid_at (by decide), aBegin_13]
    grind
  · have d1 : ∀ h, D 1 h 3 = aBegin A n 1 h 3 := fun h => by rw [eD, aup_f (by decide)]
    have d13 : D 13 23 0 = A 13 23 0 := by rw [eD, aup_f (by decide), aBegin_13]
    rw [em, zs_cong (f := fun h => aup (aPaid (aSpeak D n s (e / 2) (decide (e % 2 = 1))) n m) 0 8 0 (A 0 8 0 + 1) 1 h 3) (g := fun h => aSpeak D n s (e / 2) (decide (e % 2 = 1)) 1 h 3) (fun h _ => by rw [aup_f (by decide), aPaid_at (by decide)]), aup_f (by decide), aPaid_at (by decide), aSpk_bat hs, aSpk_23, d13, zs_cong (f := fun h => D 1 h 3) (g := fun h => aBegin A n 1 h 3) (fun h _ => d1 h)]
    grind
theorem kS_h (hI : aInv A n m T) {p : Nat} (hp : p = 3 ∨ p = 4) : zs (fun h => nI (fb_ct (fun w => decide (A p h w = 1)) m)) n = kS A p n m := by
  unfold kS
  rw [zs_swap (fun h w => A p h w) m n]
  refine zs_cong (fun h hh => ?_)
  rw [← zs_ct]
  refine zs_cong (fun w hw => ?_)
  have q := hI.2.2.2.2 h w hh hw
  rcases hp with rfl | rfl
  · exact (bI_of q.1).symm
  · exact (bI_of q.2.1).symm
theorem mn_10 (hI : aInv A n m T) : aMin A n m 0 10 0 = A 0 10 0 + (if zm (aWish (aBegin A n) n m) n = 0 then 0 else 1) := by
  rcases aMin_c hI with ⟨q, e⟩ | ⟨D, s, e, I2, eD, q, -, hs, -, ef, hb, em⟩
  · rw [e, if_pos q, aup_i (by decide), aPaid_at (by decide), aBegin_at (Or.inl (by decide))]
    grind
  · rw [em, if_neg q, aup_i (by decide), aPaid_at (by decide), aSpk_10, eD, aup_i (by decide), aBegin_at (Or.inl (by decide))]
theorem mn_got (hI : aInv A n m T) (q : zm (aWish (aBegin A n) n m) n = 0) : kS (aMin A n m) 3 n m = kS A 3 n m ∧ kS (aMin A n m) 4 n m = kS A 4 n m ∧ aMin A n m 13 23 0 = A 13 23 0 := by
  rcases aMin_c hI with ⟨-, e⟩ | ⟨D, s, e, I2, eD, q2, -⟩
  · have o : ∀ p h w, p = 3 ∨ p = 4 → aMin A n m p h w = A p h w := fun p h w hp => by
      rw [e, aup_f (by omega), aPaid_at (by omega), aBegin_at (Or.inl (by omega))]
    refine ⟨kS_cg (fun h w _ _ => o 3 h w (by decide)), kS_cg (fun h w _ _ => o 4 h w (by decide)), ?_⟩
    rw [e, aup_f (by decide), aPaid_at (by decide), aBegin_13]
  · exact absurd q q2
theorem aHd_rng {D : zAb} {s h : Nat} (q : aHd D s h = true) : aRng D s h = true := by
  unfold aHd at q
  simp only [Bool.and_eq_true] at q
  exact q.1.1
/-- what is told of a minute in which a house speaks -/
theorem mn_spk (hI : aInv A n m T) (q : ¬ zm (aWish (aBegin A n) n m) n = 0) : ∃ P R : Nat → Bool,
    aMin A n m 12 0 0 = A 0 8 0 ∧ aMin A n m 12 0 1 = nI (aSpk (aBegin A n) n m) ∧ aMin A n m 12 0 4 = zm P n ∧ aMin A n m 12 0 5 = zm R n ∧
    (∀ h, P h = true → aRng A (aSpk (aBegin A n) n m) h = true) ∧ (∀ h, R h = true → P h = true) ∧
    nI (fb_ct R n) = (kS (aMin A n m) 3 n m - kS A 3 n m) + (kS (aMin A n m) 4 n m - kS A 4 n m) ∧ aMin A n m 13 23 0 - A 13 23 0 = A 0 0 0 + nI (fb_ct P n) * A 0 1 0 := by
  rcases aMin_c hI with ⟨q2, e⟩ | ⟨D, s, e, I2, eD, -, es, hs, -, ef, hb, em⟩
  · exact absurd q2 q
  · have d0 : ∀ k, k < 9 → D 0 k 0 = A 0 k 0 := fun k hk => by rw [eD, aup_i (by omega), aBegin_at (Or.inl (by decide))]
    have d13 : ∀ i, D 13 i 0 = A 13 i 0 := fun i => by rw [eD, aup_f (by decide), aBegin_13]
    have m12 : ∀ j, j < 6 → aMin A n m 12 0 j = aNw D n s (e / 2) (decide (e % 2 = 1)) j := fun j hj => by
      rw [em, aup_f (by decide), aPaid_at (by decide), aSpk_12 (by decide) hj, if_pos rfl]
    have m13 : ∀ i, aMin A n m 13 i 0 = aSpeak D n s (e / 2) (decide (e % 2 = 1)) 13 i 0 := fun i => by
      rw [em, aup_f (by decide), aPaid_at (by decide)]
    have dd := aD_min hI
    unfold aD at dd
    obtain ⟨dd1, dd2⟩ := Prod.mk.inj dd
    have cnt := aSpk_cnt (A := D) (n := n) (s := s) (w := e / 2) (c := decide (e % 2 = 1))
    rw [← m13, ← m13, d13, d13] at cnt
    have c23 := aSpk_23 (A := D) (n := n) (s := s) (w := e / 2) (c := decide (e % 2 = 1))
    rw [← m13, d13, d0 0 (by decide), d0 1 (by decide)] at c23
    refine ⟨aHd D s, aTo D n s (e / 2) (decide (e % 2 = 1)), ?_, ?_, ?_, ?_, fun h z => ?_, fun h z => ?_, ?_, ?_⟩
    · rw [m12 0 (by decide), ← d0 8 (by decide)]; rfl
    · rw [m12 1 (by decide), ← es]; rfl
    · rw [m12 4 (by decide)]; rfl
    · rw [m12 5 (by decide)]; rfl
    · rw [← es, ← aRng_cg (A := A) (B := D) (fun i j hj => by rw [eD, aup_f (by decide), aBegin_at (Or.inr ⟨by omega, by omega⟩)])]
      exact aHd_rng z
    · unfold aTo at z
      rw [Bool.and_eq_true] at z
      exact z.1
    · grind
    · rw [c23]; grind
end AC
