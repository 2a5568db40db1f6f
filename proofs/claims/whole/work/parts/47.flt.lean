/-! quotients of small numbers are numbers -/
def fok (f : FP.Core.Fmt) : FP.Core.Datum → Prop
  | .nan => False
  | .inf _ => True
  | .fin _ c q => c < 2 ^ f.p ∧ q ≤ f.qmax
def ffin : FP.Core.Datum → Bool
  | .fin _ _ _ => true
  | _ => false
def ffin1 : FP.Core.Datum → Bool
  | .fin _ c _ => !decide (c = 0)
  | _ => false
theorem fok_ratio {f : FP.Core.Fmt} (hq : f.qmin ≤ f.qmax) (ht : f.tails < 2 ^ f.p) (s : Bool) (num den : Nat) (e : Int) : fok f (FP.Core.roundRatio f s num den e) := by
  have hb : ∀ (c : Nat) (q : Int), c < 2 ^ f.p → fok f (FP.Core.bound f s c q) := fun c q hc => by
    unfold FP.Core.bound
    split
    · exact ⟨hc, by assumption⟩
    · trivial
  unfold FP.Core.roundRatio
  split
  · exact ⟨Nat.lt_of_le_of_lt (Nat.zero_le _) ht, hq⟩
  · unfold FP.Core.roundAt FP.Core.settle
    split
    · exact hb _ _ (by assumption)
    · exact hb _ _ ht
theorem f32_q : FP.Core.b32.qmin ≤ FP.Core.b32.qmax := by decide
theorem f32_t : FP.Core.b32.tails < 2 ^ FP.Core.b32.p := by decide
theorem f64_q : FP.Core.b64.qmin ≤ FP.Core.b64.qmax := by decide
theorem f64_t : FP.Core.b64.tails < 2 ^ FP.Core.b64.p := by decide
theorem zn32_N {N : Nat} (h : N % 2147483648 ≤ 2139095040) : zn32 (UInt32.ofNat N) = true := by
  unfold zn32
  rw [decide_eq_true_eq, UInt32.le_iff_toNat_le, UInt32.toNat_and]
  have e1 : (0x7fffffff : UInt32).toNat = 2 ^ 31 - 1 := by decide
  have e2 : (0x7f800000 : UInt32).toNat = 2139095040 := by decide
  rw [e1, e2, Nat.and_two_pow_sub_one_eq_mod, UInt32.toNat_ofNat']
  omega
theorem zn64_N {N : Nat} (h : N % 9223372036854775808 ≤ 9218868437227405312) : zn64 (UInt64.ofNat N) = true := by
  unfold zn64
  rw [decide_eq_true_eq, UInt64.le_iff_toNat_le, UInt64.toNat_and]
  have e1 : (0x7fffffffffffffff : UInt64).toNat = 2 ^ 63 - 1 := by decide
  have e2 : (0x7ff0000000000000 : UInt64).toNat = 9218868437227405312 := by decide
  rw [e1, e2, Nat.and_two_pow_sub_one_eq_mod, UInt64.toNat_ofNat']
  omega
theorem fok32 {d : FP.Core.Datum} (h : fok FP.Core.b32 d) : zn32 (UInt32.ofNat (FP.Core.encode FP.Core.b32 d)) = true := by
  have t1 : FP.Core.b32.tails = 8388608 := by decide
  have t2 : FP.Core.b32.exps = 256 := by decide
  have t3 : FP.Core.b32.qmin = -149 := by decide
  have t4 : FP.Core.b32.qmax = 104 := by decide
  have t5 : FP.Core.b32.p = 24 := rfl
  apply zn32_N
  cases d with
  | nan => exact absurd h (by simp [fok])
  | inf s =>
    unfold FP.Core.encode FP.Core.assemble
    rw [t1, t2]
    cases s
    · show ((0 * 256 + (256 - 1)) * 8388608 + 0) % 2147483648 ≤ 2139095040
      decide
    · show ((1 * 256 + (256 - 1)) * 8388608 + 0) % 2147483648 ≤ 2139095040
      decide
  | fin s c q =>
    obtain ⟨h1, h2⟩ := h
    rw [t5] at h1
    rw [t4] at h2
    have hs : s.toNat ≤ 1 := by cases s <;> decide
    unfold FP.Core.encode FP.Core.assemble
    rw [t1, t2, t3]
    dsimp only
    split
    · omega
    · have : (q - -149).toNat ≤ 253 := by omega
      omega
theorem fok64 {d : FP.Core.Datum} (h : fok FP.Core.b64 d) : zn64 (UInt64.ofNat (FP.Core.encode FP.Core.b64 d)) = true := by
  have t1 : FP.Core.b64.tails = 4503599627370496 := by decide
  have t2 : FP.Core.b64.exps = 2048 := by decide
  have t3 : FP.Core.b64.qmin = -1074 := by decide
  have t4 : FP.Core.b64.qmax = 971 := by decide
  have t5 : FP.Core.b64.p = 53 := rfl
  apply zn64_N
  cases d with
  | nan => exact absurd h (by simp [fok])
  | inf s =>
    unfold FP.Core.encode FP.Core.assemble
    rw [t1, t2]
    cases s
    · show ((0 * 2048 + (2048 - 1)) * 4503599627370496 + 0) % 9223372036854775808 ≤ 9218868437227405312
      decide
    · show ((1 * 2048 + (2048 - 1)) * 4503599627370496 + 0) % 9223372036854775808 ≤ 9218868437227405312
      decide
  | fin s c q =>
    obtain ⟨h1, h2⟩ := h
    rw [t5] at h1
    rw [t4] at h2
    have hs : s.toNat ≤ 1 := by cases s <;> decide
    unfold FP.Core.encode FP.Core.assemble
    rw [t1, t2, t3]
    dsimp only
    split
    · omega
    · have : (q - -1074).toNat ≤ 2045 := by omega
      omega
theorem zn_fd {x y : UInt32} (hx : ffin (FP.Core.decode FP.Core.b32 x.toNat) = true) (hy : ffin1 (FP.Core.decode FP.Core.b32 y.toNat) = true) : zn32 (FP.fdiv x y) = true := by
  show zn32 (UInt32.ofNat (FP.Core.encode FP.Core.b32 (FP.Core.quotient FP.Core.b32 (FP.Core.decode FP.Core.b32 x.toNat) (FP.Core.decode FP.Core.b32 y.toNat)))) = true
  apply fok32
  cases h1 : FP.Core.decode FP.Core.b32 x.toNat with
  | nan => rw [h1] at hx; cases hx
  | inf s => rw [h1] at hx; cases hx
  | fin s c q =>
    cases h2 : FP.Core.decode FP.Core.b32 y.toNat with
    | nan => rw [h2] at hy; cases hy
    | inf s => rw [h2] at hy; cases hy
    | fin t d r =>
      rw [h2] at hy
      have hd : ¬ d = 0 := by simpa [ffin1] using hy
      unfold FP.Core.quotient
      dsimp only
      rw [if_neg hd]
      exact fok_ratio f32_q f32_t _ _ _ _
theorem zn32_dec {x : UInt32} (h : zn32 x = true) : ¬ FP.Core.decode FP.Core.b32 x.toNat = .nan := by
  unfold zn32 at h
  rw [decide_eq_true_eq, UInt32.le_iff_toNat_le, UInt32.toNat_and] at h
  have e1 : (0x7fffffff : UInt32).toNat = 2 ^ 31 - 1 := by decide
  have e2 : (0x7f800000 : UInt32).toNat = 2139095040 := by decide
  rw [e1, e2, Nat.and_two_pow_sub_one_eq_mod] at h
  have t1 : FP.Core.b32.tails = 8388608 := by decide
  have t2 : FP.Core.b32.exps = 256 := by decide
  unfold FP.Core.decode FP.Core.fieldE FP.Core.fieldT
  rw [t1, t2]
  split
  · split
    · intro z; cases z
    · exfalso; omega
  · split <;> (intro z; cases z)
theorem zn_f2d {x : UInt32} (h : zn32 x = true) : zn64 (FP.f2d x) = true := by
  have h1 := zn32_dec h
  have h2 : FP.Core.fIsNaN x = false := by
    show decide (FP.Core.decode FP.Core.b32 x.toNat = .nan) = false
    exact decide_eq_false h1
  unfold FP.f2d
  rw [h2]
  show zn64 (UInt64.ofNat (FP.Core.encode FP.Core.b64 (FP.Core.round FP.Core.b64 (FP.Core.decode FP.Core.b32 x.toNat)))) = true
  apply fok64
  cases h3 : FP.Core.decode FP.Core.b32 x.toNat with
  | nan => exact absurd h3 h1
  | inf s => trivial
  | fin s c q => exact fok_ratio f64_q f64_t _ _ _ _
