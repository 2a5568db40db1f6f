/-! small ints as floats -/
set_option maxRecDepth 100000 in
set_option maxHeartbeats 4000000 in
theorem zn_i2f : ∀ a, a < 110 → ∀ b, b < 110 → ffin (FP.Core.decode FP.Core.b32 (FP.i2f (nI (110 * a + b))).toNat) = true := by decide +kernel
theorem zn_i2f1 : ∀ a, a < 13 → 0 < a → ffin1 (FP.Core.decode FP.Core.b32 (FP.i2f (nI a)).toNat) = true := by decide +kernel
theorem zn_mean {s n : Nat} (hs : s < 12100) (hn : n < 13) (h0 : 0 < n) : zn32 (FP.fdiv (FP.i2f (nI s)) (FP.i2f (nI n))) = true ∧ zn64 (FP.f2d (FP.fdiv (FP.i2f (nI s)) (FP.i2f (nI n)))) = true := by
  have e : s = 110 * (s / 110) + s % 110 := by omega
  have h1 := zn_i2f (s / 110) (by omega) (s % 110) (by omega)
  rw [← e] at h1
  have h2 := zn_fd h1 (zn_i2f1 n hn h0)
  exact ⟨h2, zn_f2d h2⟩
