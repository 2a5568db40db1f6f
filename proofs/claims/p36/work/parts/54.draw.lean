/-! the law's draws -/
theorem and_nn (x : Int32) : ¬ (x &&& (2147483647 : Int32)) < 0 := by
  rw [Int32.lt_iff_toInt_lt]
  have h : 0 ≤ (x &&& (2147483647 : Int32)).toInt := by
    show 0 ≤ (x &&& (2147483647 : Int32)).toBitVec.toInt
    rw [Int32.toBitVec_and]
    refine BitVec.toInt_nonneg_of_msb_false ?_
    rw [BitVec.msb_and]
    have : ((2147483647 : Int32).toBitVec).msb = false := by decide
    rw [this, Bool.and_false]
  have z : (0 : Int32).toInt = 0 := by decide
  omega
/-- the script is there, and so many draws were made -/
def zD2 (σ : zSt) (k : Nat) : Prop := ¬ σ.1 4 80 1 = 0 ∧ σ.1 4 80 2 = nI k
theorem l_at13 (G : zLA) (x y : Int32) (σ : zSt) : ∃ r, B_Law_at_13 G x y σ = some r := by
  unfold B_Law_at_13
  split
  · exact ⟨_, rfl⟩
  · split <;> exact ⟨_, rfl⟩
theorem l_at (G : zLA) (hL : zLn G ≤ 260) {i : Nat} (hi : i < max 1 (zLn G)) (σ : zSt) : ∃ r, F_Law_at G (nI i) σ = some r := by
  rw [F_Law_at]
  by_cases q : zLn G ≤ i
  · rw [if_pos (show Int32.ofNat (zLn G) ≤ nI i from nI_le q (by omega))]
    exact l_at13 G _ _ σ
  · rw [if_neg (show ¬ Int32.ofNat (zLn G) ≤ nI i from nI_ge (by omega) (by omega)), if_pos (inb_n (by omega) (by omega))]
    exact l_at13 G _ _ σ
theorem l_draw (G : zLA) (hL : zLn G ≤ 260) {σ : zSt} {k n : Nat} (hD : zD2 σ k) (hk : k < 2 ^ 30) (h0 : 0 < n) (hn : n < 2 ^ 31) : zOk (F_Law_draw G (nI n) σ) (fun q => (∃ j, j < n ∧ q.1 = nI j) ∧ q.2 = zst σ 4 80 2 (nI (k + 1))) := by
  obtain ⟨h1, h2⟩ := hD
  have eM : (if (1 : Int32) < (Int32.ofNat (zLn G)) then (Int32.ofNat (zLn G)) else (1 : Int32)) = nI (max 1 (zLn G)) := by
    by_cases q : 1 < zLn G
    · rw [if_pos (show (1 : Int32) < Int32.ofNat (zLn G) from nI_lt (a := 1) q (by omega)), Nat.max_eq_right (by omega)]
      rfl
    · rw [if_neg (show ¬ (1 : Int32) < Int32.ofNat (zLn G) from nI_nlt (a := 1) (b := zLn G) (by omega) (by decide)), Nat.max_eq_left (by omega)]
      rfl
  rw [F_Law_draw, if_pos h1, if_pos h1, eM, if_pos (nI_ne0 (by omega) (by omega)), h2, pk_rem (by omega) (by omega) (by omega)]
  obtain ⟨r, er⟩ := l_at G hL (Nat.mod_lt k (show 0 < max 1 (zLn G) by omega)) σ
  rw [er, Option.bind_some, if_pos (nI_ne0 (by omega) hn), nI_1]
  generalize (((r + nI k * (668265263 : Int32)) ^^^ ((r + nI k * (668265263 : Int32)).toUInt32 >>> ((15 : Int32).toUInt32 &&& Int32.toUInt32 31)).toInt32) * (739982445 : Int32) ^^^ ((((r + nI k * (668265263 : Int32)) ^^^ ((r + nI k * (668265263 : Int32)).toUInt32 >>> ((15 : Int32).toUInt32 &&& Int32.toUInt32 31)).toInt32) * (739982445 : Int32)).toUInt32 >>> ((13 : Int32).toUInt32 &&& Int32.toUInt32 31)).toInt32) = X
  obtain ⟨j, hj, ej⟩ := nI_of (and_nn X)
  rw [ej, pk_rem hj h0 hn]
  exact ⟨_, rfl, ⟨j % n, Nat.mod_lt _ h0, rfl⟩, rfl⟩
theorem zD2.v {σ σ' : zSt} {k v : Nat} (h : zD2 σ k) (f : zfV v σ σ') (hv : v < 4) : zD2 σ' k := ⟨by rw [f.1 4 80 1 (by omega)]; exact h.1, by rw [f.1 4 80 2 (by omega)]; exact h.2⟩
theorem zD2.x {σ σ' : zSt} {k : Nat} (h : zD2 σ k) (f : zfX σ σ') : zD2 σ' k := ⟨by rw [f.1 4 80 1 (by decide) (by decide)]; exact h.1, by rw [f.1 4 80 2 (by decide) (by decide)]; exact h.2⟩
theorem zD2.d {σ : zSt} {k : Nat} (h : zD2 σ k) : zD2 (zst σ 4 80 2 (nI (k + 1))) (k + 1) := ⟨by rw [zst_at, if_neg (by omega)]; exact h.1, by rw [zst_at, if_pos ⟨rfl, rfl, rfl⟩]⟩
theorem zC_d {σ : zSt} {A : zAb} {v n m T k : Nat} {c : Int32} (hC : zC σ v A n m c T) (hv : v < 4) : zC (zst σ 4 80 2 (nI k)) v A n m c T := zC_fr hC (fun o i => by rw [zst_at, if_neg (by omega)])
