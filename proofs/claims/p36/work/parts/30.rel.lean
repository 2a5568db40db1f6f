/-! rows of the class -/
theorem r_get {σ : zSt} {v o i L : Nat} (hL : zrl (o + 1) = L) (hi : i < L) (h31 : L < 2 ^ 31) : F_Row_get v o (nI i) σ = some (σ.1 v (o + 1) i) := by
  rw [F_Row_get, if_neg (nI_pos (by omega)), hL, if_neg (show ¬ Int32.ofNat L ≤ nI i from nI_ge hi h31), if_pos (inb_n hi h31), nI_clamp (by omega)]
theorem r_put {σ : zSt} {v o i L : Nat} (x : Int32) (hL : zrl (o + 1) = L) (hi : i < L) (h31 : L < 2 ^ 31) : F_Row_put v o (nI i) x σ = some (zst σ v (o + 1) i x) := by
  rw [F_Row_put, if_neg (nI_pos (by omega)), hL, if_neg (show ¬ Int32.ofNat L ≤ nI i from nI_ge hi h31), if_pos (inb_n hi h31), nI_clamp (by omega)]
theorem r_add {σ : zSt} {v o i L : Nat} (x : Int32) (hL : zrl (o + 1) = L) (hi : i < L) (h31 : L < 2 ^ 31) : F_Row_add v o (nI i) x σ = some (zst σ v (o + 1) i (σ.1 v (o + 1) i + x)) := by
  rw [F_Row_add, if_neg (nI_pos (by omega)), hL, if_neg (show ¬ Int32.ofNat L ≤ nI i from nI_ge hi h31), if_pos (inb_n hi h31), if_pos (inb_n hi h31), nI_clamp (by omega)]
theorem r_join {σ : zSt} {v o i L : Nat} (x : Int32) (hL : zrl (o + 1) = L) (hi : i < L) (h31 : L < 2 ^ 31) : F_Row_join v o (nI i) x σ = some (zst σ v (o + 1) i (σ.1 v (o + 1) i ||| ((1 : Int32) <<< (x &&& 31)))) := by
  rw [F_Row_join, if_neg (nI_pos (by omega)), hL, if_neg (show ¬ Int32.ofNat L ≤ nI i from nI_ge hi h31), if_pos (inb_n hi h31), if_pos (inb_n hi h31), nI_clamp (by omega)]
theorem r_leave {σ : zSt} {v o i L : Nat} (x : Int32) (hL : zrl (o + 1) = L) (hi : i < L) (h31 : L < 2 ^ 31) : F_Row_leave v o (nI i) x σ = some (zst σ v (o + 1) i (σ.1 v (o + 1) i &&& (((1 : Int32) <<< (x &&& 31)) ^^^ (-1 : Int32)))) := by
  rw [F_Row_leave, if_neg (nI_pos (by omega)), hL, if_neg (show ¬ Int32.ofNat L ≤ nI i from nI_ge hi h31), if_pos (inb_n hi h31), if_pos (inb_n hi h31), nI_clamp (by omega)]
theorem r_cell {h w : Nat} (σ : zSt) : F_Waves_cell (nI h) (nI w) σ = some (nI (20 * h + w)) := by
  rw [F_Waves_cell, show (20 : Int32) = nI 20 from rfl, pk_mul, nI_add, Nat.mul_comm]
theorem r_get1 {σ : zSt} {v i : Nat} (hi : i < 5) : F_Row_get v 1 (nI i) σ = some (σ.1 v 2 i) := r_get (o := 1) rfl hi (by decide)
theorem r_put1 {σ : zSt} {v i : Nat} (hi : i < 5) (x : Int32) : F_Row_put v 1 (nI i) x σ = some (zst σ v 2 i x) := r_put (o := 1) x rfl hi (by decide)
theorem r_get4 {σ : zSt} {v i : Nat} (hi : i < 12) : F_Row_get v 4 (nI i) σ = some (σ.1 v 5 i) := r_get (o := 4) rfl hi (by decide)
theorem r_put4 {σ : zSt} {v i : Nat} (hi : i < 12) (x : Int32) : F_Row_put v 4 (nI i) x σ = some (zst σ v 5 i x) := r_put (o := 4) x rfl hi (by decide)
theorem r_add4 {σ : zSt} {v i : Nat} (hi : i < 12) (x : Int32) : F_Row_add v 4 (nI i) x σ = some (zst σ v 5 i (σ.1 v 5 i + x)) := r_add (o := 4) x rfl hi (by decide)
theorem r_get6 {σ : zSt} {v i : Nat} (hi : i < 12) : F_Row_get v 6 (nI i) σ = some (σ.1 v 7 i) := r_get (o := 6) rfl hi (by decide)
theorem r_put6 {σ : zSt} {v i : Nat} (hi : i < 12) (x : Int32) : F_Row_put v 6 (nI i) x σ = some (zst σ v 7 i x) := r_put (o := 6) x rfl hi (by decide)
theorem r_add6 {σ : zSt} {v i : Nat} (hi : i < 12) (x : Int32) : F_Row_add v 6 (nI i) x σ = some (zst σ v 7 i (σ.1 v 7 i + x)) := r_add (o := 6) x rfl hi (by decide)
theorem r_get8 {σ : zSt} {v i : Nat} (hi : i < 12) : F_Row_get v 8 (nI i) σ = some (σ.1 v 9 i) := r_get (o := 8) rfl hi (by decide)
theorem r_put8 {σ : zSt} {v i : Nat} (hi : i < 12) (x : Int32) : F_Row_put v 8 (nI i) x σ = some (zst σ v 9 i x) := r_put (o := 8) x rfl hi (by decide)
theorem r_add8 {σ : zSt} {v i : Nat} (hi : i < 12) (x : Int32) : F_Row_add v 8 (nI i) x σ = some (zst σ v 9 i (σ.1 v 9 i + x)) := r_add (o := 8) x rfl hi (by decide)
theorem r_get10 {σ : zSt} {v i : Nat} (hi : i < 12) : F_Row_get v 10 (nI i) σ = some (σ.1 v 11 i) := r_get (o := 10) rfl hi (by decide)
theorem r_put10 {σ : zSt} {v i : Nat} (hi : i < 12) (x : Int32) : F_Row_put v 10 (nI i) x σ = some (zst σ v 11 i x) := r_put (o := 10) x rfl hi (by decide)
theorem r_add10 {σ : zSt} {v i : Nat} (hi : i < 12) (x : Int32) : F_Row_add v 10 (nI i) x σ = some (zst σ v 11 i (σ.1 v 11 i + x)) := r_add (o := 10) x rfl hi (by decide)
theorem r_get12 {σ : zSt} {v i : Nat} (hi : i < 12) : F_Row_get v 12 (nI i) σ = some (σ.1 v 13 i) := r_get (o := 12) rfl hi (by decide)
theorem r_put12 {σ : zSt} {v i : Nat} (hi : i < 12) (x : Int32) : F_Row_put v 12 (nI i) x σ = some (zst σ v 13 i x) := r_put (o := 12) x rfl hi (by decide)
theorem r_add12 {σ : zSt} {v i : Nat} (hi : i < 12) (x : Int32) : F_Row_add v 12 (nI i) x σ = some (zst σ v 13 i (σ.1 v 13 i + x)) := r_add (o := 12) x rfl hi (by decide)
theorem r_get14 {σ : zSt} {v i : Nat} (hi : i < 12) : F_Row_get v 14 (nI i) σ = some (σ.1 v 15 i) := r_get (o := 14) rfl hi (by decide)
theorem r_put14 {σ : zSt} {v i : Nat} (hi : i < 12) (x : Int32) : F_Row_put v 14 (nI i) x σ = some (zst σ v 15 i x) := r_put (o := 14) x rfl hi (by decide)
theorem r_add14 {σ : zSt} {v i : Nat} (hi : i < 12) (x : Int32) : F_Row_add v 14 (nI i) x σ = some (zst σ v 15 i (σ.1 v 15 i + x)) := r_add (o := 14) x rfl hi (by decide)
theorem r_get16 {σ : zSt} {v i : Nat} (hi : i < 12) : F_Row_get v 16 (nI i) σ = some (σ.1 v 17 i) := r_get (o := 16) rfl hi (by decide)
theorem r_put16 {σ : zSt} {v i : Nat} (hi : i < 12) (x : Int32) : F_Row_put v 16 (nI i) x σ = some (zst σ v 17 i x) := r_put (o := 16) x rfl hi (by decide)
theorem r_add16 {σ : zSt} {v i : Nat} (hi : i < 12) (x : Int32) : F_Row_add v 16 (nI i) x σ = some (zst σ v 17 i (σ.1 v 17 i + x)) := r_add (o := 16) x rfl hi (by decide)
theorem r_get18 {σ : zSt} {v i : Nat} (hi : i < 12) : F_Row_get v 18 (nI i) σ = some (σ.1 v 19 i) := r_get (o := 18) rfl hi (by decide)
theorem r_put18 {σ : zSt} {v i : Nat} (hi : i < 12) (x : Int32) : F_Row_put v 18 (nI i) x σ = some (zst σ v 19 i x) := r_put (o := 18) x rfl hi (by decide)
theorem r_add18 {σ : zSt} {v i : Nat} (hi : i < 12) (x : Int32) : F_Row_add v 18 (nI i) x σ = some (zst σ v 19 i (σ.1 v 19 i + x)) := r_add (o := 18) x rfl hi (by decide)
theorem r_get20 {σ : zSt} {v i : Nat} (hi : i < 12) : F_Row_get v 20 (nI i) σ = some (σ.1 v 21 i) := r_get (o := 20) rfl hi (by decide)
theorem r_put20 {σ : zSt} {v i : Nat} (hi : i < 12) (x : Int32) : F_Row_put v 20 (nI i) x σ = some (zst σ v 21 i x) := r_put (o := 20) x rfl hi (by decide)
theorem r_add20 {σ : zSt} {v i : Nat} (hi : i < 12) (x : Int32) : F_Row_add v 20 (nI i) x σ = some (zst σ v 21 i (σ.1 v 21 i + x)) := r_add (o := 20) x rfl hi (by decide)
theorem r_get22 {σ : zSt} {v i : Nat} (hi : i < 12) : F_Row_get v 22 (nI i) σ = some (σ.1 v 23 i) := r_get (o := 22) rfl hi (by decide)
theorem r_put22 {σ : zSt} {v i : Nat} (hi : i < 12) (x : Int32) : F_Row_put v 22 (nI i) x σ = some (zst σ v 23 i x) := r_put (o := 22) x rfl hi (by decide)
theorem r_add22 {σ : zSt} {v i : Nat} (hi : i < 12) (x : Int32) : F_Row_add v 22 (nI i) x σ = some (zst σ v 23 i (σ.1 v 23 i + x)) := r_add (o := 22) x rfl hi (by decide)
theorem r_join22 {σ : zSt} {v i : Nat} (hi : i < 12) (x : Int32) : F_Row_join v 22 (nI i) x σ = some (zst σ v 23 i (σ.1 v 23 i ||| ((1 : Int32) <<< (x &&& 31)))) := r_join (o := 22) x rfl hi (by decide)
theorem r_get25 {σ : zSt} {v i : Nat} (hi : i < 20) : F_Row_get v 25 (nI i) σ = some (σ.1 v 26 i) := r_get (o := 25) rfl hi (by decide)
theorem r_put25 {σ : zSt} {v i : Nat} (hi : i < 20) (x : Int32) : F_Row_put v 25 (nI i) x σ = some (zst σ v 26 i x) := r_put (o := 25) x rfl hi (by decide)
theorem r_get27 {σ : zSt} {v i : Nat} (hi : i < 20) : F_Row_get v 27 (nI i) σ = some (σ.1 v 28 i) := r_get (o := 27) rfl hi (by decide)
theorem r_put27 {σ : zSt} {v i : Nat} (hi : i < 20) (x : Int32) : F_Row_put v 27 (nI i) x σ = some (zst σ v 28 i x) := r_put (o := 27) x rfl hi (by decide)
theorem r_get29 {σ : zSt} {v i : Nat} (hi : i < 20) : F_Row_get v 29 (nI i) σ = some (σ.1 v 30 i) := r_get (o := 29) rfl hi (by decide)
theorem r_put29 {σ : zSt} {v i : Nat} (hi : i < 20) (x : Int32) : F_Row_put v 29 (nI i) x σ = some (zst σ v 30 i x) := r_put (o := 29) x rfl hi (by decide)
theorem r_get31 {σ : zSt} {v i : Nat} (hi : i < 20) : F_Row_get v 31 (nI i) σ = some (σ.1 v 32 i) := r_get (o := 31) rfl hi (by decide)
theorem r_put31 {σ : zSt} {v i : Nat} (hi : i < 20) (x : Int32) : F_Row_put v 31 (nI i) x σ = some (zst σ v 32 i x) := r_put (o := 31) x rfl hi (by decide)
theorem r_get33 {σ : zSt} {v i : Nat} (hi : i < 20) : F_Row_get v 33 (nI i) σ = some (σ.1 v 34 i) := r_get (o := 33) rfl hi (by decide)
theorem r_put33 {σ : zSt} {v i : Nat} (hi : i < 20) (x : Int32) : F_Row_put v 33 (nI i) x σ = some (zst σ v 34 i x) := r_put (o := 33) x rfl hi (by decide)
theorem r_get35 {σ : zSt} {v i : Nat} (hi : i < 20) : F_Row_get v 35 (nI i) σ = some (σ.1 v 36 i) := r_get (o := 35) rfl hi (by decide)
theorem r_put35 {σ : zSt} {v i : Nat} (hi : i < 20) (x : Int32) : F_Row_put v 35 (nI i) x σ = some (zst σ v 36 i x) := r_put (o := 35) x rfl hi (by decide)
theorem r_get37 {σ : zSt} {v i : Nat} (hi : i < 20) : F_Row_get v 37 (nI i) σ = some (σ.1 v 38 i) := r_get (o := 37) rfl hi (by decide)
theorem r_put37 {σ : zSt} {v i : Nat} (hi : i < 20) (x : Int32) : F_Row_put v 37 (nI i) x σ = some (zst σ v 38 i x) := r_put (o := 37) x rfl hi (by decide)
theorem r_join37 {σ : zSt} {v i : Nat} (hi : i < 20) (x : Int32) : F_Row_join v 37 (nI i) x σ = some (zst σ v 38 i (σ.1 v 38 i ||| ((1 : Int32) <<< (x &&& 31)))) := r_join (o := 37) x rfl hi (by decide)
theorem r_get39 {σ : zSt} {v i : Nat} (hi : i < 20) : F_Row_get v 39 (nI i) σ = some (σ.1 v 40 i) := r_get (o := 39) rfl hi (by decide)
theorem r_put39 {σ : zSt} {v i : Nat} (hi : i < 20) (x : Int32) : F_Row_put v 39 (nI i) x σ = some (zst σ v 40 i x) := r_put (o := 39) x rfl hi (by decide)
theorem r_join39 {σ : zSt} {v i : Nat} (hi : i < 20) (x : Int32) : F_Row_join v 39 (nI i) x σ = some (zst σ v 40 i (σ.1 v 40 i ||| ((1 : Int32) <<< (x &&& 31)))) := r_join (o := 39) x rfl hi (by decide)
theorem r_get41 {σ : zSt} {v i : Nat} (hi : i < 20) : F_Row_get v 41 (nI i) σ = some (σ.1 v 42 i) := r_get (o := 41) rfl hi (by decide)
theorem r_put41 {σ : zSt} {v i : Nat} (hi : i < 20) (x : Int32) : F_Row_put v 41 (nI i) x σ = some (zst σ v 42 i x) := r_put (o := 41) x rfl hi (by decide)
theorem r_get44 {σ : zSt} {v i : Nat} (hi : i < 12) : F_Row_get v 44 (nI i) σ = some (σ.1 v 45 i) := r_get (o := 44) rfl hi (by decide)
theorem r_put44 {σ : zSt} {v i : Nat} (hi : i < 12) (x : Int32) : F_Row_put v 44 (nI i) x σ = some (zst σ v 45 i x) := r_put (o := 44) x rfl hi (by decide)
theorem r_add44 {σ : zSt} {v i : Nat} (hi : i < 12) (x : Int32) : F_Row_add v 44 (nI i) x σ = some (zst σ v 45 i (σ.1 v 45 i + x)) := r_add (o := 44) x rfl hi (by decide)
theorem r_join44 {σ : zSt} {v i : Nat} (hi : i < 12) (x : Int32) : F_Row_join v 44 (nI i) x σ = some (zst σ v 45 i (σ.1 v 45 i ||| ((1 : Int32) <<< (x &&& 31)))) := r_join (o := 44) x rfl hi (by decide)
theorem r_leave44 {σ : zSt} {v i : Nat} (hi : i < 12) (x : Int32) : F_Row_leave v 44 (nI i) x σ = some (zst σ v 45 i (σ.1 v 45 i &&& (((1 : Int32) <<< (x &&& 31)) ^^^ (-1 : Int32)))) := r_leave (o := 44) x rfl hi (by decide)
theorem r_get46 {σ : zSt} {v i : Nat} (hi : i < 240) : F_Row_get v 46 (nI i) σ = some (σ.1 v 47 i) := r_get (o := 46) rfl hi (by decide)
theorem r_put46 {σ : zSt} {v i : Nat} (hi : i < 240) (x : Int32) : F_Row_put v 46 (nI i) x σ = some (zst σ v 47 i x) := r_put (o := 46) x rfl hi (by decide)
theorem r_get49 {σ : zSt} {v i : Nat} (hi : i < 12) : F_Row_get v 49 (nI i) σ = some (σ.1 v 50 i) := r_get (o := 49) rfl hi (by decide)
theorem r_put49 {σ : zSt} {v i : Nat} (hi : i < 12) (x : Int32) : F_Row_put v 49 (nI i) x σ = some (zst σ v 50 i x) := r_put (o := 49) x rfl hi (by decide)
theorem r_add49 {σ : zSt} {v i : Nat} (hi : i < 12) (x : Int32) : F_Row_add v 49 (nI i) x σ = some (zst σ v 50 i (σ.1 v 50 i + x)) := r_add (o := 49) x rfl hi (by decide)
theorem r_join49 {σ : zSt} {v i : Nat} (hi : i < 12) (x : Int32) : F_Row_join v 49 (nI i) x σ = some (zst σ v 50 i (σ.1 v 50 i ||| ((1 : Int32) <<< (x &&& 31)))) := r_join (o := 49) x rfl hi (by decide)
theorem r_leave49 {σ : zSt} {v i : Nat} (hi : i < 12) (x : Int32) : F_Row_leave v 49 (nI i) x σ = some (zst σ v 50 i (σ.1 v 50 i &&& (((1 : Int32) <<< (x &&& 31)) ^^^ (-1 : Int32)))) := r_leave (o := 49) x rfl hi (by decide)
theorem r_get51 {σ : zSt} {v i : Nat} (hi : i < 240) : F_Row_get v 51 (nI i) σ = some (σ.1 v 52 i) := r_get (o := 51) rfl hi (by decide)
theorem r_put51 {σ : zSt} {v i : Nat} (hi : i < 240) (x : Int32) : F_Row_put v 51 (nI i) x σ = some (zst σ v 52 i x) := r_put (o := 51) x rfl hi (by decide)
theorem r_get53 {σ : zSt} {v i : Nat} (hi : i < 240) : F_Row_get v 53 (nI i) σ = some (σ.1 v 54 i) := r_get (o := 53) rfl hi (by decide)
theorem r_put53 {σ : zSt} {v i : Nat} (hi : i < 240) (x : Int32) : F_Row_put v 53 (nI i) x σ = some (zst σ v 54 i x) := r_put (o := 53) x rfl hi (by decide)
theorem r_get55 {σ : zSt} {v i : Nat} (hi : i < 240) : F_Row_get v 55 (nI i) σ = some (σ.1 v 56 i) := r_get (o := 55) rfl hi (by decide)
theorem r_put55 {σ : zSt} {v i : Nat} (hi : i < 240) (x : Int32) : F_Row_put v 55 (nI i) x σ = some (zst σ v 56 i x) := r_put (o := 55) x rfl hi (by decide)
theorem r_get57 {σ : zSt} {v i : Nat} (hi : i < 240) : F_Row_get v 57 (nI i) σ = some (σ.1 v 58 i) := r_get (o := 57) rfl hi (by decide)
theorem r_put57 {σ : zSt} {v i : Nat} (hi : i < 240) (x : Int32) : F_Row_put v 57 (nI i) x σ = some (zst σ v 58 i x) := r_put (o := 57) x rfl hi (by decide)
theorem r_join57 {σ : zSt} {v i : Nat} (hi : i < 240) (x : Int32) : F_Row_join v 57 (nI i) x σ = some (zst σ v 58 i (σ.1 v 58 i ||| ((1 : Int32) <<< (x &&& 31)))) := r_join (o := 57) x rfl hi (by decide)
theorem r_get60 {σ : zSt} {v i : Nat} (hi : i < 180) : F_Row_get v 60 (nI i) σ = some (σ.1 v 61 i) := r_get (o := 60) rfl hi (by decide)
theorem r_put60 {σ : zSt} {v i : Nat} (hi : i < 180) (x : Int32) : F_Row_put v 60 (nI i) x σ = some (zst σ v 61 i x) := r_put (o := 60) x rfl hi (by decide)
/-! what holds of an abstract state; how the class keeps it -/
def aHf (A : zAb) (h : Nat) : Prop := (∃ x, x ≤ 99 ∧ A 1 h 0 = nI x) ∧ (∃ x, x ≤ 99 ∧ A 1 h 1 = nI x) ∧ (∃ x, x ≤ 150 ∧ A 1 h 2 = nI x) ∧ (∃ x, x ≤ 999 ∧ A 1 h 3 = nI x) ∧ (∃ x, 1 ≤ x ∧ x ≤ 9 ∧ A 1 h 4 = nI x)
def aPf (A : zAb) (n T h w : Nat) : Prop :=
  (A 3 h w = 0 ∨ A 3 h w = 1) ∧ (A 4 h w = 0 ∨ A 4 h w = 1) ∧ (A 7 h w = 0 ∨ A 7 h w = 1) ∧ (A 10 h w = 0 ∨ A 10 h w = 1) ∧
  (A 5 h w = -1 ∨ ∃ o, o < n ∧ A 5 h w = nI o) ∧ (∃ g, g ≤ 12 ∧ A 6 h w = nI g) ∧ (∃ t, t ≤ T + 1 ∧ A 8 h w = nI t) ∧ (∃ g, g ≤ 11 ∧ A 9 h w = nI g) ∧ (∃ t, t ≤ T + 1 ∧ A 11 h w = nI t) ∧
  (A 3 h w = 0 → A 5 h w = -1 ∧ A 6 h w = 0) ∧ (A 4 h w = 1 → A 7 h w = 0) ∧ (A 10 h w = 1 → A 4 h w = 1)
def aDue (A : zAb) (n m : Nat) : Prop := ∀ h w, h < n → w < m → A 10 h w = 1 → aOws A n h w ≠ 0
def aLg (A : zAb) (T : Nat) : Prop := ∃ s, s ≤ T ∧ A 0 10 0 = nI s ∧ A 0 11 0 = nI (min 30 s)
def aSc (A : zAb) (T : Nat) : Prop :=
  (∃ d, 24 ≤ d ∧ d ≤ 240 ∧ A 0 5 0 = nI d) ∧ A 0 8 0 = nI T ∧ T < 2 ^ 28 ∧ (∃ x, x < 1000003 ∧ A 0 9 0 = nI x) ∧ (∃ x, x ≤ 50 ∧ A 0 0 0 = nI x) ∧ (∃ x, x ≤ 20 ∧ A 0 1 0 = nI x) ∧ (∃ x, x ≤ 200 ∧ A 0 2 0 = nI x) ∧ (∃ x, x ≤ 99 ∧ A 0 3 0 = nI x) ∧ (∃ x, x ≤ 11 ∧ A 0 4 0 = nI x)
def aInv (A : zAb) (n m T : Nat) : Prop :=
  zSz A n m ∧ aSc A T ∧ (∀ h, h < n → aHf A h) ∧ (∀ w, w < m → A 2 w 4 = -1 → ∀ h, h < n → A 4 h w = 0) ∧ (∀ h w, h < n → w < m → aPf A n T h w)
def v1 (σ : zSt) (v : Nat) (A : zAb) (n m : Nat) (c : Int32) : Prop := σ.1 v 0 0 = A 0 5 0 ∧ σ.1 v 0 1 = A 0 8 0 ∧ σ.1 v 0 2 = A 0 9 0 ∧ σ.1 v 0 3 = A 13 23 0 + c ∧ σ.1 v 3 0 = nI n ∧ σ.1 v 24 0 = nI m ∧ ∀ k, k < 5 → σ.1 v 2 k = A 0 k 0
def v2 (σ : zSt) (v : Nat) (A : zAb) (n : Nat) : Prop := ∀ h, h < n → σ.1 v 5 h = A 1 h 0 ∧ σ.1 v 7 h = A 1 h 1 ∧ σ.1 v 9 h = A 1 h 2 ∧ σ.1 v 11 h = A 1 h 3 ∧ σ.1 v 13 h = A 1 h 4 ∧ σ.1 v 15 h = A 1 h 5 ∧ σ.1 v 17 h = A 1 h 6 ∧ σ.1 v 19 h = A 1 h 7 ∧ σ.1 v 21 h = A 1 h 8 ∧ σ.1 v 23 h = aNear A n h
def v3 (σ : zSt) (v : Nat) (A : zAb) (n m : Nat) : Prop := ∀ w, w < m → σ.1 v 26 w = A 2 w 0 ∧ σ.1 v 28 w = A 2 w 1 ∧ σ.1 v 30 w = A 2 w 2 ∧ σ.1 v 32 w = A 2 w 3 ∧ σ.1 v 34 w = A 2 w 4 ∧ σ.1 v 36 w = A 2 w 5 ∧
  σ.1 v 38 w = zm (fun h => decide (A 3 h w = 1)) n ∧ σ.1 v 40 w = zm (fun h => decide (A 4 h w = 1)) n ∧ σ.1 v 42 w = zmx (fun h => A 6 h w) n
def v4 (σ : zSt) (v : Nat) (A : zAb) (n m : Nat) : Prop := ∀ h, h < 12 → σ.1 v 45 h = zm (fun w => decide (h < n) && decide (A 7 h w = 1)) m ∧ σ.1 v 50 h = zm (fun w => decide (h < n) && decide (A 10 h w = 1)) m
def v5 (σ : zSt) (v : Nat) (A : zAb) (n m : Nat) : Prop := ∀ h w, h < n → w < m → (A 7 h w = 1 → σ.1 v 47 (20 * h + w) = A 8 h w ∧ σ.1 v 54 (20 * h + w) = A 9 h w) ∧ (A 10 h w = 1 → σ.1 v 52 (20 * h + w) = A 11 h w)
def aLk (A : zAb) (h w o : Nat) : Bool := decide (A 5 h w = nI o) || decide (A 5 o w = nI h)
def v6 (σ : zSt) (v : Nat) (A : zAb) (n m : Nat) : Prop := ∀ h w, h < 12 → w < m → σ.1 v 56 (20 * h + w) = (if h < n then A 5 h w else -1) ∧ σ.1 v 58 (20 * h + w) = zm (fun o => decide (h < n) && aLk A h w o) n
def v7 (σ : zSt) (v : Nat) (A : zAb) : Prop := σ.1 v 59 0 = A 0 10 0 ∧ ∀ s i k, A 0 10 0 = nI s → s < 2 ^ 30 → i < 30 → i < s → k < 6 → σ.1 v 61 ((s - 1 - i) % 30 * 6 + k) = A 12 i k
def zVr (σ : zSt) (v : Nat) (A : zAb) (n m : Nat) (c : Int32) : Prop := v1 σ v A n m c ∧ v2 σ v A n ∧ v3 σ v A n m ∧ v4 σ v A n m ∧ v5 σ v A n m ∧ v6 σ v A n m
/-- what the inner methods of a village may write -/
def zfV (v : Nat) (σ σ' : zSt) : Prop := (∀ g o i, g ≠ v → σ'.1 g o i = σ.1 g o i) ∧ σ'.2 = σ.2
theorem zfV.rf (v : Nat) (σ : zSt) : zfV v σ σ := ⟨fun _ _ _ _ => rfl, rfl⟩
theorem zfV.tr {v : Nat} {σ σ2 σ3 : zSt} (h : zfV v σ σ2) (h2 : zfV v σ2 σ3) : zfV v σ σ3 := ⟨fun g o i q => (h2.1 g o i q).trans (h.1 g o i q), h2.2.trans h.2⟩
theorem zfV.st (v : Nat) (σ : zSt) (o i : Nat) (x : Int32) : zfV v σ (zst σ v o i x) := ⟨fun g o' j q => by rw [zst_at, if_neg (fun z => q z.1)], rfl⟩
theorem aLk_lt {A : zAb} {n m T h w o : Nat} (hI : aInv A n m T) (hh : h < n) (hw : w < m) (ho : n ≤ o) (h31 : o < 2 ^ 31) : decide (A 5 h w = nI o) = false := by
  have hn := hI.1.2.2.1
  rw [decide_eq_false_iff_not]
  intro z
  rcases (hI.2.2.2.2 h w hh hw).2.2.2.2.1 with y | ⟨k, hk, y⟩
  · rw [y] at z
    have z2 := congrArg Int32.toInt z
    rw [nI_toInt h31] at z2
    have : (-1 : Int32).toInt = -1 := by decide
    omega
  · rw [y, nI_eq (by omega) h31] at z
    omega
section CQ
variable {σ : zSt} {A : zAb} {n m T v : Nat} {c : Int32}
theorem c_minuteOfDay (hR : zVr σ v A n m c) (hI : aInv A n m T) : F_Village_minuteOfDay v σ = some (aT A) := by
  obtain ⟨⟨d, hd1, hd2, hd⟩, -⟩ := hI.2.1
  rw [F_Village_minuteOfDay, hR.1.1, hR.1.2.1]
  have h0 : ¬ A 0 5 0 ≤ 0 := by rw [hd]; exact nI_nle (by omega) (by omega)
  have h1 : ¬ A 0 5 0 = 0 := by rw [hd]; exact nI_ne0 (by omega) (by omega)
  rw [if_neg h0, if_pos h1]
  rfl
theorem c_isQuietAt (hR : zVr σ v A n m c) (hI : aInv A n m T) {h : Nat} (hh : h < n) (t : Int32) : F_Homes_isQuiet v (nI h) t σ = some (bI (aQuiet A h t)) := by
  have hn := hI.1.2.2.1
  obtain ⟨-, -, -, -, -, q5, q6, -⟩ := hR.2.1 h hh
  rw [F_Homes_isQuiet, r_get14 (by omega), r_get16 (by omega)]
  simp only [Option.bind_some, q5, q6, aQuiet]
  by_cases c1 : A 1 h 5 = -1
  · simp [c1, bI]
  · by_cases c2 : A 1 h 6 < A 1 h 5
    · by_cases c3 : A 1 h 5 ≤ t <;> by_cases c4 : A 1 h 6 < t <;> simp [c1, c2, c3, c4, bI]
    · by_cases c3 : t < A 1 h 5 <;> by_cases c4 : A 1 h 6 < t <;> simp [c1, c2, c3, c4, bI]
theorem c_distance (hR : zVr σ v A n m c) (hI : aInv A n m T) {h k : Nat} (hh : h < n) (hk : k < n) : F_Homes_distance v (nI h) (nI k) σ = some (aDist A h k) := by
  have hn := hI.1.2.2.1
  rw [F_Homes_distance, r_get4 (by omega), r_get4 (by omega), r_get6 (by omega), r_get6 (by omega)]
  simp only [Option.bind_some, (hR.2.1 h hh).1, (hR.2.1 k hk).1, (hR.2.1 h hh).2.1, (hR.2.1 k hk).2.1]
  rfl
theorem c_quietAt (hR : zVr σ v A n m c) (hI : aInv A n m T) (t : Int32) : F_Homes_quietAt v t σ = some (zm (fun h => aQuiet A h t) n) := by
  have hn := hI.1.2.2.1
  have hn' : σ.1 v 3 0 = nI n := hR.1.2.2.2.2.1
  rw [F_Homes_quietAt]
  refine z_maskO (fun j a x => L_Homes_quietAt v σ j 0 t a x) (by omega) _ (fun k hk hP j a => ?_) (fun k hk hP j a => ?_) (fun j a => ?_)
  · try dsimp only
    rw [e_Homes_quietAt_0, hn', if_neg (nI_ge hk (by omega)), c_isQuietAt hR hI hk, Option.bind_some, if_neg (bI_t hP)]
    rfl
  · try dsimp only
    rw [e_Homes_quietAt_0, hn', if_neg (nI_ge hk (by omega)), c_isQuietAt hR hI hk, Option.bind_some, if_pos (bI_f hP)]
  · try dsimp only
    rw [e_Homes_quietAt_0, hn', if_pos (nI_le0 (by omega))]
theorem zs_if (P : Nat → Bool) (f : Nat → Int32) (k : Nat) : zs (fun h => if P h = true then f h else 0) (k + 1) = if P k = true then zs (fun h => if P h = true then f h else 0) k + f k else zs (fun h => if P h = true then f h else 0) k := by
  rw [zs]
  split
  · rfl
  · rw [Int32.add_zero]
theorem c_sharesOf (hR : zVr σ v A n m c) (hI : aInv A n m T) {P : Nat → Bool} : F_Homes_sharesOf v (zm P n) σ = some (zs (fun h => if P h = true then A 1 h 4 else 0) n) := by
  have hn := hI.1.2.2.1
  have hn' : σ.1 v 3 0 = nI n := hR.1.2.2.2.2.1
  rw [F_Homes_sharesOf]
  refine z_for (fun j k => L_Homes_sharesOf v σ j 0 (zm P n) (zs (fun h => if P h = true then A 1 h 4 else 0) k) (nI k)) n _ (fun k hk j => ?_) (fun j => ?_) zK (zK_lt (by omega))
  · try dsimp only
    rw [e_Homes_sharesOf_0, hn', if_neg (nI_ge hk (by omega)), z_contains (by omega) hk, r_get12 (by omega), (hR.2.1 k hk).2.2.2.2.1, zs_if, nI_1]
    cases P k <;> rfl
  · try dsimp only
    rw [e_Homes_sharesOf_0, hn', if_pos (nI_le0 (by omega))]
theorem c_isCorrected (hR : zVr σ v A n m c) (hI : aInv A n m T) {w : Nat} (hw : w < m) : F_Tidings_isCorrected v (nI w) σ = some (bI (aCor A w)) := by
  have hm := hI.1.2.2.2
  rw [F_Tidings_isCorrected, r_get33 (by omega), Option.bind_some, (hR.2.2.1 w hw).2.2.2.2.1]
  by_cases c : A 2 w 4 = -1 <;> simp [c, aCor, bI]
theorem c_correctedNumber (hR : zVr σ v A n m c) (hI : aInv A n m T) : F_Tidings_correctedNumber v σ = some (zs (fun w => bI (aCor A w)) m) := by
  have hm := hI.1.2.2.2
  have hm' : σ.1 v 24 0 = nI m := hR.1.2.2.2.2.2.1
  rw [F_Tidings_correctedNumber]
  refine z_sum (fun j a x => L_Tidings_correctedNumber v σ j 0 a x) (by omega) _ (fun k hk j a => ?_) (fun j a => ?_)
  · try dsimp only
    rw [e_Tidings_correctedNumber_0, hm', if_neg (nI_ge hk (by omega)), c_isCorrected hR hI hk, Option.bind_some]
    cases aCor A k <;> simp [bI]
  · try dsimp only
    rw [e_Tidings_correctedNumber_0, hm', if_pos (nI_le0 (by omega))]
theorem c_isHeardOf (hR : zVr σ v A n m c) (hI : aInv A n m T) {h w : Nat} (hh : h < n) (hw : w < m) : F_Tidings_isHeardOf v (nI w) (nI h) σ = some (bI (decide (A 3 h w = 1) || decide (A 4 h w = 1))) := by
  have hn := hI.1.2.2.1
  have hm := hI.1.2.2.2
  obtain ⟨-, -, -, -, -, -, k1, k2, -⟩ := hR.2.2.1 w hw
  rw [F_Tidings_isHeardOf, r_get37 (by omega), r_get39 (by omega), Option.bind_some, Option.bind_some, k1, k2, zm_or (by omega), z_contains (by omega) hh, Option.bind_some]
  cases (decide (A 3 h w = 1) || decide (A 4 h w = 1)) <;> simp [bI]
theorem c_uncorrectedHouses (hR : zVr σ v A n m c) (hI : aInv A n m T) {w : Nat} (hw : w < m) : F_Tidings_uncorrectedHouses v (nI w) σ = some (zm (fun h => aKn A h w 2) n) := by
  have hn := hI.1.2.2.1
  have hm := hI.1.2.2.2
  obtain ⟨-, -, -, -, -, -, k1, k2, -⟩ := hR.2.2.1 w hw
  rw [F_Tidings_uncorrectedHouses, c_isCorrected hR hI hw, r_get37 (by omega), r_get39 (by omega), Option.bind_some, Option.bind_some, Option.bind_some, k1, k2, zm_andn (by omega)]
  cases q : aCor A w with
  | false =>
    rw [if_pos (show bI false = 0 from rfl)]
    congr 1
    exact ((zm_zero (by omega)).mpr (fun i hi => by simp [aKn, q])).symm
  | true =>
    rw [if_neg (by decide)]
    congr 1
    refine zm_congr (fun h hh => ?_)
    rcases (hI.2.2.2.2 h w hh hw).2.1 with y | y <;> simp [aKn, q, y]
theorem c_newsKnownAt (hR : zVr σ v A n m c) (hI : aInv A n m T) {h : Nat} (hh : h < n) : F_Tidings_newsKnownAt v (nI h) σ = some (zm (fun w => aKn A h w 0) m) := by
  have hn := hI.1.2.2.1
  have hm := hI.1.2.2.2
  have hm' : σ.1 v 24 0 = nI m := hR.1.2.2.2.2.2.1
  rw [F_Tidings_newsKnownAt]
  have q : ∀ k, k < m → F_Row_get v 37 (nI k) σ = some (zm (fun h => decide (A 3 h k = 1)) n) := fun k hk => by rw [r_get37 (by omega), (hR.2.2.1 k hk).2.2.2.2.2.2.1]
  have q2 : ∀ k, k < m → F_Waves_contains (zm (fun h => decide (A 3 h k = 1)) n) (nI h) σ = some (bI (aKn A h k 0)) := fun k hk => by rw [z_contains (by omega) hh]; rfl
  refine z_maskO (fun j a x => L_Tidings_newsKnownAt v σ j 0 (nI h) a x) (by omega) _ (fun k hk hP j a => ?_) (fun k hk hP j a => ?_) (fun j a => ?_)
  · try dsimp only
    rw [e_Tidings_newsKnownAt_0, hm', if_neg (nI_ge hk (by omega)), q k hk, Option.bind_some, q2 k hk, Option.bind_some, if_neg (bI_t hP)]
    rfl
  · try dsimp only
    rw [e_Tidings_newsKnownAt_0, hm', if_neg (nI_ge hk (by omega)), q k hk, Option.bind_some, q2 k hk, Option.bind_some, if_pos (bI_f hP)]
  · try dsimp only
    rw [e_Tidings_newsKnownAt_0, hm', if_pos (nI_le0 (by omega))]
theorem c_correctionsKnownAt (hR : zVr σ v A n m c) (hI : aInv A n m T) {h : Nat} (hh : h < n) : F_Tidings_correctionsKnownAt v (nI h) σ = some (zm (fun w => aKn A h w 1) m) := by
  have hn := hI.1.2.2.1
  have hm := hI.1.2.2.2
  have hm' : σ.1 v 24 0 = nI m := hR.1.2.2.2.2.2.1
  rw [F_Tidings_correctionsKnownAt]
  have q : ∀ k, k < m → F_Row_get v 39 (nI k) σ = some (zm (fun h => decide (A 4 h k = 1)) n) := fun k hk => by rw [r_get39 (by omega), (hR.2.2.1 k hk).2.2.2.2.2.2.2.1]
  have q2 : ∀ k, k < m → F_Waves_contains (zm (fun h => decide (A 4 h k = 1)) n) (nI h) σ = some (bI (aKn A h k 1)) := fun k hk => by rw [z_contains (by omega) hh]; rfl
  refine z_maskO (fun j a x => L_Tidings_correctionsKnownAt v σ j 0 (nI h) a x) (by omega) _ (fun k hk hP j a => ?_) (fun k hk hP j a => ?_) (fun j a => ?_)
  · try dsimp only
    rw [e_Tidings_correctionsKnownAt_0, hm', if_neg (nI_ge hk (by omega)), q k hk, Option.bind_some, q2 k hk, Option.bind_some, if_neg (bI_t hP)]
    rfl
  · try dsimp only
    rw [e_Tidings_correctionsKnownAt_0, hm', if_neg (nI_ge hk (by omega)), q k hk, Option.bind_some, q2 k hk, Option.bind_some, if_pos (bI_f hP)]
  · try dsimp only
    rw [e_Tidings_correctionsKnownAt_0, hm', if_pos (nI_le0 (by omega))]
theorem c_uncorrectedAt (hR : zVr σ v A n m c) (hI : aInv A n m T) {h : Nat} (hh : h < n) : F_Tidings_uncorrectedAt v (nI h) σ = some (zm (fun w => aKn A h w 2) m) := by
  have hn := hI.1.2.2.1
  have hm := hI.1.2.2.2
  have hm' : σ.1 v 24 0 = nI m := hR.1.2.2.2.2.2.1
  rw [F_Tidings_uncorrectedAt]
  have q2 : ∀ k, k < m → F_Waves_contains (zm (fun h => aKn A h k 2) n) (nI h) σ = some (bI (aKn A h k 2)) := fun k hk => by rw [z_contains (by omega) hh]; rfl
  refine z_maskO (fun j a x => L_Tidings_uncorrectedAt v σ j 0 (nI h) a x) (by omega) _ (fun k hk hP j a => ?_) (fun k hk hP j a => ?_) (fun j a => ?_)
  · try dsimp only
    rw [e_Tidings_uncorrectedAt_0, hm', if_neg (nI_ge hk (by omega)), c_uncorrectedHouses hR hI hk, Option.bind_some, q2 k hk, Option.bind_some, if_neg (bI_t hP)]
    rfl
  · try dsimp only
    rw [e_Tidings_uncorrectedAt_0, hm', if_neg (nI_ge hk (by omega)), c_uncorrectedHouses hR hI hk, Option.bind_some, q2 k hk, Option.bind_some, if_pos (bI_f hP)]
  · try dsimp only
    rw [e_Tidings_uncorrectedAt_0, hm', if_pos (nI_le0 (by omega))]
theorem c_owedBy (hR : zVr σ v A n m c) (hI : aInv A n m T) {h w : Nat} (hh : h < n) (hw : w < m) : F_Village_owedBy v (nI h) (nI w) σ = some (aOws A n h w) := by
  have hn := hI.1.2.2.1
  have hm := hI.1.2.2.2
  rw [F_Village_owedBy, r_get39 (by omega), Option.bind_some, (hR.2.2.1 w hw).2.2.2.2.2.2.2.1, z_contains (by omega) hh, Option.bind_some, r_cell, Option.bind_some, r_get57 (by omega), Option.bind_some, (hR.2.2.2.2.2 h w (by omega) hw).2, zm_andn (by omega)]
  unfold aOws
  by_cases q : A 4 h w = 1
  · rw [if_pos (show decide (A 4 h w = 1) = true by simpa using q), if_neg (by decide)]
    congr 1
    refine zm_congr (fun o ho => ?_)
    unfold aOw aLk
    rcases (hI.2.2.2.2 o w ho hw).2.1 with y | y <;> simp [hh, q, y]
  · rw [if_neg (show ¬ decide (A 4 h w = 1) = true by simpa using q), if_pos rfl]
    congr 1
    exact ((zm_zero (by omega)).mpr (fun o ho => by simp [aOw, q])).symm
theorem c_sendable (hR : zVr σ v A n m c) (hI : aInv A n m T) {h : Nat} (hh : h < n) : F_Village_sendableCorrections v (nI h) σ = some (zm (fun w => decide (A 10 h w = 1) && aSend A n h w) m) := by
  have hn := hI.1.2.2.1
  have hm := hI.1.2.2.2
  have hm' : σ.1 v 24 0 = nI m := hR.1.2.2.2.2.2.1
  have e50 : σ.1 v 50 h = zm (fun w => decide (A 10 h w = 1)) m := by
    rw [(hR.2.2.2.1 h (by omega)).2]
    exact zm_congr (fun w _ => by simp [hh])
  rw [F_Village_sendableCorrections, r_get49 (by omega), Option.bind_some, e50]
  by_cases q0 : zm (fun w => decide (A 10 h w = 1)) m = 0
  · rw [if_pos q0]
    congr 1
    exact ((zm_zero (by omega)).mpr (fun i hi => by rw [(zm_zero (by omega)).mp q0 i hi]; rfl)).symm
  · rw [if_neg q0, r_get22 (by omega), Option.bind_some, (hR.2.1 h hh).2.2.2.2.2.2.2.2.2]
    have hsnd : ∀ k, (aOws A n h k &&& aNear A n h = 0) ↔ aSend A n h k = false := fun k => by
      unfold aSend
      by_cases y : aOws A n h k &&& aNear A n h = 0 <;> simp [y]
    refine z_maskO (fun j a x => L_Village_sendableCorrections v σ j 0 (nI h) (zm (fun w => decide (A 10 h w = 1)) m) (aNear A n h) a x) (by omega) _ (fun k hk hP j a => ?_) (fun k hk hP j a => ?_) (fun j a => ?_)
    · try dsimp only
      rw [Bool.and_eq_true] at hP
      rw [e_Village_sendableCorrections_0, hm', if_neg (nI_ge hk (by omega)), z_contains (by omega) hk, Option.bind_some, if_pos hP.1, if_neg (by decide), c_owedBy hR hI hh hk, Option.bind_some, if_neg (fun z => by rw [(hsnd k).mp z] at hP; exact absurd hP.2 (by decide))]
      rfl
    · try dsimp only
      rw [e_Village_sendableCorrections_0, hm', if_neg (nI_ge hk (by omega)), z_contains (by omega) hk, Option.bind_some, c_owedBy hR hI hh hk, Option.bind_some]
      by_cases y : A 10 h k = 1
      · rw [if_pos (show decide (A 10 h k = 1) = true by simpa using y), if_neg (by decide), if_pos ((hsnd k).mpr (by simpa [y] using hP))]
      · rw [if_neg (show ¬ decide (A 10 h k = 1) = true by simpa using y), if_pos rfl]
    · try dsimp only
      rw [e_Village_sendableCorrections_0, hm', if_pos (nI_le0 (by omega))]
theorem c_size43 (hR : zVr σ v A n m c) (hI : aInv A n m T) {h : Nat} (hh : h < 12) : F_Entries_size v 43 (nI h) σ = some (nI (fb_ct (fun w => decide (h < n) && decide (A 7 h w = 1)) m)) := by
  have hm := hI.1.2.2.2
  rw [F_Entries_size]
  show ((F_Row_get v 44 (nI h) σ).bind fun r2 => (F_Integer_bitCount r2).bind fun r4 => some r4) = _
  rw [r_get44 hh, Option.bind_some, (hR.2.2.2.1 h hh).1, z_bitCount _ (by omega), Option.bind_some]
theorem c_size48 (hR : zVr σ v A n m c) (hI : aInv A n m T) {h : Nat} (hh : h < 12) : F_Entries_size v 48 (nI h) σ = some (nI (fb_ct (fun w => decide (h < n) && decide (A 10 h w = 1)) m)) := by
  have hm := hI.1.2.2.2
  rw [F_Entries_size]
  show ((F_Row_get v 49 (nI h) σ).bind fun r2 => (F_Integer_bitCount r2).bind fun r4 => some r4) = _
  rw [r_get49 hh, Option.bind_some, (hR.2.2.2.1 h hh).2, z_bitCount _ (by omega), Option.bind_some]
theorem c_total43 (hR : zVr σ v A n m c) (hI : aInv A n m T) : F_Entries_total v 43 σ = some (zs (fun h => nI (fb_ct (fun w => decide (h < n) && decide (A 7 h w = 1)) m)) 12) := by
  rw [F_Entries_total]
  refine z_sum (fun j a x => L_Entries_total v 43 σ j 0 a x) (by omega) _ (fun k hk j a => ?_) (fun j a => ?_)
  · try dsimp only
    rw [e_Entries_total_0, if_neg (show ¬ (12 : Int32) ≤ nI k from nI_ge (b := 12) hk (by decide)), c_size43 hR hI hk, Option.bind_some]
  · try dsimp only
    rw [e_Entries_total_0, if_pos (show (12 : Int32) ≤ nI 12 by decide)]
theorem c_total48 (hR : zVr σ v A n m c) (hI : aInv A n m T) : F_Entries_total v 48 σ = some (zs (fun h => nI (fb_ct (fun w => decide (h < n) && decide (A 10 h w = 1)) m)) 12) := by
  rw [F_Entries_total]
  refine z_sum (fun j a x => L_Entries_total v 48 σ j 0 a x) (by omega) _ (fun k hk j a => ?_) (fun j a => ?_)
  · try dsimp only
    rw [e_Entries_total_0, if_neg (show ¬ (12 : Int32) ≤ nI k from nI_ge (b := 12) hk (by decide)), c_size48 hR hI hk, Option.bind_some]
  · try dsimp only
    rw [e_Entries_total_0, if_pos (show (12 : Int32) ≤ nI 12 by decide)]
end CQ

