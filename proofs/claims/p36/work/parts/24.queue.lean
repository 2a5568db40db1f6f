/-! the queue of a house -/
def zTm (x : Int32) : Prop := ∃ t, t < 2 ^ 30 ∧ x = nI t
theorem zTm.c {x y : Int32} (hx : zTm x) (hy : zTm y) : (x - y < 0 ↔ x < y) ∧ (x - y = 0 ↔ x = y) := by
  obtain ⟨a, ha, rfl⟩ := hx
  obtain ⟨b, hb, rfl⟩ := hy
  have e := pk_sub_toInt ha hb
  rw [nI_ltI (by omega) (by omega), nI_eq (by omega) (by omega), Int32.lt_iff_toInt_lt, ← Int32.toInt_inj, e]
  simp only [Int32.toInt_zero]
  omega
def aTm (A : zAb) (h e : Nat) : Int32 := if e % 2 = 1 then A 11 h (e / 2) else A 8 h (e / 2)
def aAh (A : zAb) (h a b : Nat) : Prop := (a % 2 = 1 ∧ b % 2 = 0) ∨ (a % 2 = b % 2 ∧ ((aTm A h a).toInt < (aTm A h b).toInt ∨ ((aTm A h a).toInt = (aTm A h b).toInt ∧ a < b)))
theorem aAh_tr {A : zAb} {h a b c : Nat} (h1 : aAh A h a b) (h2 : aAh A h b c) : aAh A h a c := by
  unfold aAh at *
  omega
theorem aAh_tot {A : zAb} {h a b : Nat} (h1 : a ≠ b) (h2 : ¬ aAh A h a b) : aAh A h b a := by
  unfold aAh at *
  omega
theorem aAh_ir {A : zAb} {h a : Nat} : ¬ aAh A h a a := by
  unfold aAh
  omega
section MU
variable {σ : zSt} {A : zAb} {n m : Nat}
theorem m_half {e : Nat} (he : e < 2 ^ 31) : nI e / (2 : Int32) = nI (e / 2) := pk_div (d := 2) he (by decide) (by decide)
/-- the entries of a house among the first news -/
def aEnt (A : zAb) (h w : Nat) (e : Nat) : Prop := e / 2 < w ∧ (if e % 2 = 1 then A 10 h (e / 2) = 1 else A 7 h (e / 2) = 1)
end MU

