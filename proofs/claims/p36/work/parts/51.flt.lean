/-! the sum of the chances -/
def fU : Int := 2 ^ 1044
theorem fU_pos : 0 < fU := by unfold fU; exact Int.pow_pos (by decide)
def fz (x : UInt64) : Int := FP.Core.zval FP.Core.b64 (FP.Core.val64 x)
def fQ (a S : Nat) : UInt64 := FP.ddiv (FP.i2d (nI a)) (FP.i2d (nI S))
def fqB (a S : Nat) : Bool := decide ((fQ a S).toNat % 2 ^ 63 < 9218868437227405312) && (decide (((a : Int) * 2 ^ 30 - S) * fU ≤ fz (fQ a S) * S) && (decide (fz (fQ a S) * S ≤ ((a : Int) * 2 ^ 30 + S) * fU) && decide (Op.cmpValue (FP.dcmp (fQ a S) FP.dconst0) .l = 1)))
set_option maxRecDepth 100000 in
theorem fq_all : ((List.range 10).all (fun a => (List.range 109).all (fun S => a == 0 || S == 0 || fqB a S))) = true := by decide +kernel
theorem fq_ok (a : Nat) (ha : a < 10) (h0 : 0 < a) (S : Nat) (hS : S < 109) (hS0 : 0 < S) : (fQ a S).toNat % 2 ^ 63 < 9218868437227405312 ∧ (((a : Int) * 2 ^ 30 - S) * fU ≤ fz (fQ a S) * S ∧ fz (fQ a S) * S ≤ ((a : Int) * 2 ^ 30 + S) * fU) ∧ Op.cmpValue (FP.dcmp (fQ a S) FP.dconst0) .l = 1 := by
  have h := List.all_eq_true.mp (List.all_eq_true.mp fq_all a (List.mem_range.mpr ha)) S (List.mem_range.mpr hS)
  rcases Bool.or_eq_true_iff.mp h with h | h
  · rcases Bool.or_eq_true_iff.mp h with h | h
    · exact absurd (eq_of_beq h) (Nat.ne_of_gt h0)
    · exact absurd (eq_of_beq h) (Nat.ne_of_gt hS0)
  · unfold fqB at h
    rw [Bool.and_eq_true, Bool.and_eq_true, Bool.and_eq_true, decide_eq_true_eq, decide_eq_true_eq, decide_eq_true_eq, decide_eq_true_eq] at h
    exact ⟨h.1, ⟨h.2.1, h.2.2.1⟩, h.2.2.2⟩
theorem fz_fin {r : UInt64} (h : FP.Core.DFin r) : zn64 r = true := by
  have h := (FP.Core.fin_bits r).mp h
  unfold zn64
  rw [decide_eq_true_eq, UInt64.le_iff_toNat_le, UInt64.toNat_and]
  have e1 : (0x7fffffffffffffff : UInt64).toNat = 2 ^ 63 - 1 := by decide
  have e2 : (0x7ff0000000000000 : UInt64).toNat = 9218868437227405312 := by decide
  rw [e1, e2, Nat.and_two_pow_sub_one_eq_mod]
  omega
/-- a whole number of units is a number -/
theorem fV (K : Nat) (hK : K < 2 ^ 53) : ∃ V, FP.Core.fits FP.Core.b64 V ∧ V ≠ .nan ∧ FP.Core.zval FP.Core.b64 V = (K : Int) * fU := by
  obtain ⟨c', q', h1, h2⟩ := FP.Core.round_exact FP.Core.good_b64 false (c := K) (q := -30) hK (by decide) (by decide)
  refine ⟨_, FP.Core.round_fits FP.Core.good_b64 (.fin false K (-30)), (by rw [h1]; intro z; cases z), ?_⟩
  rw [h1]
  show FP.Core.signed false (FP.Core.inUnits c' q' FP.Core.b64.qmin) = _
  rw [h2]
  have : (-30 - FP.Core.b64.qmin).toNat = 1044 := by decide
  unfold FP.Core.inUnits
  rw [this]
  show ((K * 2 ^ 1044 : Nat) : Int) = (K : Int) * 2 ^ 1044
  rw [Int.natCast_mul, Int.natCast_pow]
  rfl
theorem f_add {x y : UInt64} {lo hi : Nat} (hx : FP.Core.DFin x) (hy : FP.Core.DFin y) (hlo : lo < 2 ^ 53) (hhi : hi < 2 ^ 53) (h1 : (lo : Int) * fU ≤ fz x + fz y) (h2 : fz x + fz y ≤ (hi : Int) * fU) : FP.Core.DFin (FP.dadd x y) ∧ (lo : Int) * fU ≤ fz (FP.dadd x y) ∧ fz (FP.dadd x y) ≤ (hi : Int) * fU := by
  obtain ⟨V1, a1, b1, c1⟩ := fV lo hlo
  obtain ⟨V2, a2, b2, c2⟩ := fV hi hhi
  have e : FP.Core.val64 (FP.dadd x y) = FP.Core.round FP.Core.b64 (FP.Core.exactSum (FP.Core.val64 x) (FP.Core.val64 y)) := FP.Core.val64_dadd x y
  have g1 : (lo : Int) * fU ≤ fz (FP.dadd x y) := by
    unfold fz
    rw [e, ← c1]
    exact FP.Core.sum_ge FP.Core.good_b64 hx hy (FP.Core.val64_fits x) (FP.Core.val64_fits y) a1 b1 (by rw [c1]; exact h1)
  have g2 : fz (FP.dadd x y) ≤ (hi : Int) * fU := by
    unfold fz
    rw [e, ← c2]
    exact FP.Core.sum_le FP.Core.good_b64 hx hy (FP.Core.val64_fits x) (FP.Core.val64_fits y) a2 b2 (by rw [c2]; exact h2)
  refine ⟨?_, g1, g2⟩
  have nn : FP.Core.dIsNaN (FP.dadd x y) = false := FP.Core.dadd_out hx.notNaN hy
  have nn2 : FP.Core.val64 (FP.dadd x y) ≠ .nan := (FP.Core.notNaN_iff _).mp nn
  have big : (hi : Int) * fU < FP.Core.zval FP.Core.b64 (.inf false) := by
    have t : FP.Core.zval FP.Core.b64 (.inf false) = (2 : Int) ^ 2098 := by decide +kernel
    rw [t]
    have : (hi : Int) * fU ≤ 2 ^ 53 * fU := Int.mul_le_mul_of_nonneg_right (by omega) (Int.le_of_lt fU_pos)
    refine Int.lt_of_le_of_lt this ?_
    unfold fU
    decide +kernel
  have small : FP.Core.zval FP.Core.b64 (.inf true) < 0 := by decide +kernel
  have lo0 : 0 ≤ (lo : Int) * fU := Int.mul_nonneg (Int.natCast_nonneg lo) (Int.le_of_lt fU_pos)
  unfold fz at g1 g2
  unfold FP.Core.DFin
  cases hv : FP.Core.val64 (FP.dadd x y) with
  | nan => exact absurd hv nn2
  | inf s =>
    rw [hv] at g1 g2
    cases s
    · exact absurd (Int.lt_of_lt_of_le big g2) (Int.lt_irrefl _)
    · exact absurd (Int.lt_of_lt_of_le small (Int.le_trans lo0 g1)) (Int.lt_irrefl _)
  | fin s c q => exact ⟨s, c, q, rfl⟩
/-- the sum behind k terms, that are p of S together -/
def fI (S p k : Nat) (x : UInt64) : Prop := FP.Core.DFin x ∧ ((p : Int) * 2 ^ 30 - 2 * k * S) * fU ≤ fz x * S ∧ fz x * S ≤ ((p : Int) * 2 ^ 30 + 2 * k * S) * fU
theorem fI_0 (S : Nat) : fI S 0 0 FP.dconst0 := by
  have z : fz FP.dconst0 = 0 := by decide +kernel
  refine ⟨(FP.Core.fin_bits _).mpr (by decide), ?_, ?_⟩ <;> rw [z] <;> simp
theorem fI_add {S p k a : Nat} {x : UInt64} (hS : S < 109) (h0 : 0 < S) (ha : a < 10) (ha0 : 0 < a) (hk : k < 12) (hp : p ≤ 108) (h : fI S p k x) : zn64 (FP.dadd x (fQ a S)) = true ∧ fI S (p + a) (k + 1) (FP.dadd x (fQ a S)) := by
  obtain ⟨hx, h1, h2⟩ := h
  obtain ⟨q0, ⟨q1, q2⟩, -⟩ := fq_ok a ha ha0 S hS h0
  have hq : FP.Core.DFin (fQ a S) := (FP.Core.fin_bits _).mpr q0
  have S0 : (0 : Int) < S := by omega
  have kS : 2 * k * S ≤ 2 * 11 * 108 := Nat.mul_le_mul (by omega) (by omega)
  -- the whole numbers below and above
  have main : ∀ lo hi : Nat, (lo : Int) * S ≤ (p + a : Nat) * 2 ^ 30 - 2 * k * S - S → ((p + a : Nat) : Int) * 2 ^ 30 + 2 * k * S + S ≤ hi * S → lo < 2 ^ 53 → hi < 2 ^ 53 → FP.Core.DFin (FP.dadd x (fQ a S)) ∧ (lo : Int) * fU ≤ fz (FP.dadd x (fQ a S)) ∧ fz (FP.dadd x (fQ a S)) ≤ (hi : Int) * fU := by
    intro lo hi e1 e2 l1 l2
    have sum1 : ((p + a : Nat) * 2 ^ 30 - 2 * k * S - S : Int) * fU ≤ (fz x + fz (fQ a S)) * S := by
      have : ((p + a : Nat) * 2 ^ 30 - 2 * k * S - S : Int) = ((p : Int) * 2 ^ 30 - 2 * k * S) + ((a : Int) * 2 ^ 30 - S) := by
        rw [Int.natCast_add, Int.add_mul]; omega
      rw [this, Int.add_mul, Int.add_mul]
      exact Int.add_le_add h1 q1
    have sum2 : (fz x + fz (fQ a S)) * S ≤ ((p + a : Nat) * 2 ^ 30 + 2 * k * S + S : Int) * fU := by
      have : ((p + a : Nat) * 2 ^ 30 + 2 * k * S + S : Int) = ((p : Int) * 2 ^ 30 + 2 * k * S) + ((a : Int) * 2 ^ 30 + S) := by
        rw [Int.natCast_add, Int.add_mul]; omega
      rw [this, Int.add_mul, Int.add_mul]
      exact Int.add_le_add h2 q2
    refine f_add hx hq l1 l2 ?_ ?_
    · refine Int.le_of_mul_le_mul_right ?_ S0
      refine Int.le_trans ?_ sum1
      have : (lo : Int) * fU * S = (lo : Int) * S * fU := by rw [Int.mul_assoc, Int.mul_comm fU, ← Int.mul_assoc]
      rw [this]
      exact Int.mul_le_mul_of_nonneg_right e1 (Int.le_of_lt fU_pos)
    · refine Int.le_of_mul_le_mul_right ?_ S0
      refine Int.le_trans sum2 ?_
      have : (hi : Int) * fU * S = (hi : Int) * S * fU := by rw [Int.mul_assoc, Int.mul_comm fU, ← Int.mul_assoc]
      rw [this]
      exact Int.mul_le_mul_of_nonneg_right e2 (Int.le_of_lt fU_pos)
  -- places
  have L0 : 2 * k * S + S ≤ (p + a) * 2 ^ 30 := by
    have : 1 * 2 ^ 30 ≤ (p + a) * 2 ^ 30 := Nat.mul_le_mul_right _ (by omega)
    omega
  have LN := Nat.div_add_mod ((p + a) * 2 ^ 30 - (2 * k * S + S)) S
  have LM := Nat.mod_lt ((p + a) * 2 ^ 30 - (2 * k * S + S)) h0
  have HN := Nat.div_add_mod ((p + a) * 2 ^ 30 + (2 * k * S + S)) S
  have HM := Nat.mod_lt ((p + a) * 2 ^ 30 + (2 * k * S + S)) h0
  have bnd : (p + a) * 2 ^ 30 ≤ 125627793408 := Nat.le_trans (Nat.mul_le_mul_right _ (show p + a ≤ 117 by omega)) (by decide)
  have LD := Nat.div_le_self ((p + a) * 2 ^ 30 - (2 * k * S + S)) S
  have HD := Nat.div_le_self ((p + a) * 2 ^ 30 + (2 * k * S + S)) S
  generalize hlo : ((p + a) * 2 ^ 30 - (2 * k * S + S)) / S = lo at *
  generalize hhi : ((p + a) * 2 ^ 30 + (2 * k * S + S)) / S = hi at *
  rw [Nat.mul_comm] at LN HN
  generalize hls : lo * S = ls at *
  generalize hhs : hi * S = hs at *
  have els : (lo : Int) * S = (ls : Int) := by rw [← hls, Int.natCast_mul]
  have ehs : (hi : Int) * S = (hs : Int) := by rw [← hhs, Int.natCast_mul]
  have ek : (2 * (k : Int) * S) = ((2 * k * S : Nat) : Int) := by rw [Int.natCast_mul, Int.natCast_mul]; rfl
  have ep : (((p + a : Nat) : Int) * 2 ^ 30) = (((p + a) * 2 ^ 30 : Nat) : Int) := by rw [Int.natCast_mul]; rfl
  generalize hP : (p + a) * 2 ^ 30 = P at *
  generalize hKS : 2 * k * S = ks at *
  have ehs1 : ((hi + 1 : Nat) : Int) * S = (hs : Int) + S := by rw [Int.natCast_add, Int.add_mul, ehs]; simp
  obtain ⟨m1, m2, m3⟩ := main lo (hi + 1) (by rw [els, ep, ek]; omega) (by rw [ehs1, ep, ek]; omega) (by omega) (by omega)
  have ek2 : (2 * ((k + 1 : Nat) : Int) * S) = (ks : Int) + 2 * S := by rw [Int.natCast_add, Int.mul_add, Int.add_mul, ek]; simp
  refine ⟨fz_fin m1, m1, ?_, ?_⟩
  · rw [ek2, ep]
    have : (lo : Int) * fU * S ≤ fz (FP.dadd x (fQ a S)) * S := Int.mul_le_mul_of_nonneg_right m2 (Int.le_of_lt S0)
    refine Int.le_trans ?_ this
    have e : (lo : Int) * fU * S = (ls : Int) * fU := by rw [Int.mul_assoc, Int.mul_comm fU, ← Int.mul_assoc, els]
    rw [e]
    exact Int.mul_le_mul_of_nonneg_right (by omega) (Int.le_of_lt fU_pos)
  · rw [ek2, ep]
    have : fz (FP.dadd x (fQ a S)) * S ≤ ((hi + 1 : Nat) : Int) * fU * S := Int.mul_le_mul_of_nonneg_right m3 (Int.le_of_lt S0)
    refine Int.le_trans this ?_
    have e : ((hi + 1 : Nat) : Int) * fU * S = ((hs : Int) + S) * fU := by rw [Int.mul_assoc, Int.mul_comm fU, ← Int.mul_assoc, ehs1]
    rw [e]
    exact Int.mul_le_mul_of_nonneg_right (by omega) (Int.le_of_lt fU_pos)
/-- nothing is added -/
theorem fI_zero {S p k : Nat} {x : UInt64} (h : fI S p k x) : zn64 (FP.dadd x FP.dconst0) = true ∧ fI S p k (FP.dadd x FP.dconst0) := by
  obtain ⟨hx, h1, h2⟩ := h
  have hz : FP.Core.DZero FP.dconst0 := (FP.Core.zero_bits2 _).mpr (by decide)
  have e := FP.Core.dadd_zero_eq hx hz
  have hd : FP.Core.DFin FP.dconst0 := (FP.Core.fin_bits _).mpr (by decide)
  have nn : FP.Core.val64 (FP.dadd x FP.dconst0) ≠ .nan := (FP.Core.notNaN_iff _).mp (FP.Core.dadd_out hx.notNaN hd)
  have ez : fz (FP.dadd x FP.dconst0) = fz x := by
    have := FP.Core.dcmp_zval nn ((FP.Core.notNaN_iff _).mp hx.notNaN)
    rw [show FP.Core.dcmp (FP.dadd x FP.dconst0) x = some .eq from e.1] at this
    have := Option.some.inj this
    unfold fz
    exact Int.compare_eq_eq.mp this.symm
  have hf : FP.Core.DFin (FP.dadd x FP.dconst0) := by
    unfold FP.Core.DFin
    obtain ⟨s, c, q, hv⟩ := hx
    cases hw : FP.Core.val64 (FP.dadd x FP.dconst0) with
    | nan => exact absurd hw nn
    | inf s2 =>
      exfalso
      have := (show FP.Core.DFin x from ⟨s, c, q, hv⟩).zval_lt
      unfold fz FP.Core.zval at ez
      rw [hw] at ez
      have big : FP.Core.zmag FP.Core.b64 (.inf s2) = FP.Core.b64.tails * 2 ^ (FP.Core.b64.exps - 2) := rfl
      have m : FP.Core.zmag FP.Core.b64 (.inf s2) = FP.Core.zmag FP.Core.b64 (FP.Core.val64 x) := by
        generalize FP.Core.zmag FP.Core.b64 (.inf s2) = u at *
        generalize FP.Core.zmag FP.Core.b64 (FP.Core.val64 x) = v at *
        generalize FP.Core.sgn (FP.Core.Datum.inf s2) = s3 at *
        generalize FP.Core.sgn (FP.Core.val64 x) = s4 at *
        cases s3 <;> cases s4 <;> simp only [FP.Core.signed, if_true, Bool.false_eq_true, if_false] at ez <;> omega
      rw [← m, big] at this
      exact Nat.lt_irrefl _ this
    | fin s2 c2 q2 => exact ⟨s2, c2, q2, rfl⟩
  exact ⟨fz_fin hf, hf, by rw [ez]; exact h1, by rw [ez]; exact h2⟩
theorem fI_end {S k : Nat} {x : UInt64} (hS : S < 109) (h0 : 0 < S) (hk : k ≤ 12) (h : fI S S k x) : ¬ Op.cmpValue (FP.dcmp x 4607173411600762667) .g < 0 ∧ ¬ 0 < Op.cmpValue (FP.dcmp x 4607186922399644778) .l := by
  obtain ⟨hx, h1, h2⟩ := h
  have S0 : (0 : Int) < S := by omega
  have nx : FP.Core.val64 x ≠ .nan := (FP.Core.notNaN_iff _).mp hx.notNaN
  have z1 : fz 4607173411600762667 ≤ ((2 : Int) ^ 30 - 24) * fU := by decide +kernel
  have z2 : ((2 : Int) ^ 30 + 24) * fU ≤ fz 4607186922399644778 := by decide +kernel
  have n1 : FP.Core.val64 4607173411600762667 ≠ .nan := by decide +kernel
  have n2 : FP.Core.val64 4607186922399644778 ≠ .nan := by decide +kernel
  have b1 : ((2 : Int) ^ 30 - 24) * fU ≤ fz x := by
    refine Int.le_of_mul_le_mul_right ?_ S0
    refine Int.le_trans ?_ h1
    have : ((2 : Int) ^ 30 - 24) * fU * S = (((2 : Int) ^ 30 - 24) * S) * fU := by rw [Int.mul_assoc, Int.mul_comm fU, ← Int.mul_assoc]
    rw [this]
    refine Int.mul_le_mul_of_nonneg_right ?_ (Int.le_of_lt fU_pos)
    have : (2 * (k : Int)) * S ≤ 24 * S := Int.mul_le_mul_of_nonneg_right (by omega) (Int.le_of_lt S0)
    rw [Int.sub_mul, Int.mul_comm ((2 : Int) ^ 30)]
    omega
  have b2 : fz x ≤ ((2 : Int) ^ 30 + 24) * fU := by
    refine Int.le_of_mul_le_mul_right ?_ S0
    refine Int.le_trans h2 ?_
    have : ((2 : Int) ^ 30 + 24) * fU * S = (((2 : Int) ^ 30 + 24) * S) * fU := by rw [Int.mul_assoc, Int.mul_comm fU, ← Int.mul_assoc]
    rw [this]
    refine Int.mul_le_mul_of_nonneg_right ?_ (Int.le_of_lt fU_pos)
    have : (2 * (k : Int)) * S ≤ 24 * S := Int.mul_le_mul_of_nonneg_right (by omega) (Int.le_of_lt S0)
    rw [Int.add_mul, Int.mul_comm ((2 : Int) ^ 30)]
    omega
  have c1 : FP.dcmp x 4607173411600762667 = some (compare (fz x) (fz 4607173411600762667)) := FP.Core.dcmp_zval nx n1
  have c2 : FP.dcmp x 4607186922399644778 = some (compare (fz x) (fz 4607186922399644778)) := FP.Core.dcmp_zval nx n2
  rw [c1, c2]
  have l1 : ¬ fz x < fz 4607173411600762667 := by omega
  have l2 : ¬ fz 4607186922399644778 < fz x := by omega
  constructor
  · have : compare (fz x) (fz 4607173411600762667) ≠ .lt := fun z => l1 (Int.compare_eq_lt.mp z)
    cases hq : compare (fz x) (fz 4607173411600762667) with
    | lt => exact absurd hq this
    | eq => decide
    | gt => decide
  · have : compare (fz x) (fz 4607186922399644778) ≠ .gt := fun z => l2 (Int.compare_eq_gt.mp z)
    cases hq : compare (fz x) (fz 4607186922399644778) with
    | gt => exact absurd hq this
    | eq => decide
    | lt => decide
