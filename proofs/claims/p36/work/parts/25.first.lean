/-! who comes first, who wishes, who is drawn -/
def zbest (P : Nat → Bool) (t : Nat → Int32) : Nat → Option Nat
  | 0 => none
  | k + 1 => match zbest P t k with
    | none => if P k = true then some k else none
    | some j => if P k = true ∧ t k < t j then some k else some j
theorem zbest_none {P : Nat → Bool} {t : Nat → Int32} : ∀ {k : Nat}, zbest P t k = none → ∀ i, i < k → P i = false
  | 0, _, i, hi => absurd hi (Nat.not_lt_zero i)
  | k + 1, h, i, hi => by
    rw [zbest] at h
    cases e : zbest P t k with
    | none =>
      rw [e] at h
      have ih := zbest_none e
      by_cases q : P k = true
      · simp [q] at h
      · rcases Nat.lt_or_ge i k with y | y
        · exact ih i y
        · have : i = k := by omega
          subst this; simpa using q
    | some j =>
      rw [e] at h
      simp only at h
      split at h <;> cases h
theorem zbest_some {P : Nat → Bool} {t : Nat → Int32} : ∀ {k j : Nat}, zbest P t k = some j → j < k ∧ P j = true ∧ ∀ i, i < k → P i = true → i ≠ j → ((t j).toInt < (t i).toInt ∨ ((t j).toInt = (t i).toInt ∧ j < i))
  | 0, j, h => by cases h
  | k + 1, j, h => by
    rw [zbest] at h
    cases e : zbest P t k with
    | none =>
      rw [e] at h
      have ih := zbest_none e
      simp only at h
      by_cases q : P k = true
      · rw [if_pos q] at h
        cases h
        refine ⟨Nat.lt_succ_self _, q, fun i hi hp hne => ?_⟩
        rw [ih i (by omega)] at hp; cases hp
      · rw [if_neg q] at h; cases h
    | some j0 =>
      rw [e] at h
      obtain ⟨h1, h2, h3⟩ := zbest_some e
      simp only at h
      by_cases q : P k = true ∧ t k < t j0
      · rw [if_pos q] at h
        cases h
        have q2 := Int32.lt_iff_toInt_lt.mp q.2
        refine ⟨Nat.lt_succ_self _, q.1, fun i hi hp hne => ?_⟩
        by_cases y : i = j0
        · subst y; exact Or.inl q2
        · rcases h3 i (by omega) hp y with z | z <;> omega
      · rw [if_neg q] at h
        cases h
        refine ⟨by omega, h2, fun i hi hp hne => ?_⟩
        rcases Nat.lt_or_ge i k with y | y
        · exact h3 i y hp hne
        · have : i = k := by omega
          subst this
          have q2 : ¬ t i < t j := fun z => q ⟨hp, z⟩
          rw [Int32.lt_iff_toInt_lt] at q2
          omega
def oI : Option Nat → Int32
  | none => -1
  | some e => nI e
def aFc (A : zAb) (n m h : Nat) : Option Nat := zbest (fun w => decide (A 10 h w = 1) && aSend A n h w) (fun w => A 11 h w) m
def aFn (A : zAb) (m h : Nat) : Option Nat := zbest (fun w => decide (A 7 h w = 1)) (fun w => A 8 h w) m
def aFirst (A : zAb) (n m h : Nat) : Option Nat := match aFc A n m h with
  | some w => some (2 * w + 1)
  | none => match aFn A m h with
    | some w => some (2 * w)
    | none => none
def aCs (A : zAb) (n h e : Nat) : Bool := if e % 2 = 1 then aSend A n h (e / 2) else true
theorem aFirst_none {A : zAb} {n m h : Nat} (h0 : aFirst A n m h = none) : ∀ e, aEnt A h m e → aCs A n h e = false := by
  intro e ⟨he, hx⟩
  unfold aFirst at h0
  cases e1 : aFc A n m h with
  | some w => rw [e1] at h0; cases h0
  | none =>
    rw [e1] at h0
    cases e2 : aFn A m h with
    | some w => rw [e2] at h0; cases h0
    | none =>
      have k1 := zbest_none e1 (e / 2) he
      have k2 := zbest_none e2 (e / 2) he
      unfold aCs
      by_cases q : e % 2 = 1
      · rw [if_pos q] at hx
        rw [if_pos q]
        simpa [hx] using k1
      · rw [if_neg q] at hx
        simp [hx] at k2
theorem aFirst_some {A : zAb} {n m h e : Nat} (h0 : aFirst A n m h = some e) : aEnt A h m e ∧ aCs A n h e = true ∧ ∀ e', aEnt A h m e' → aCs A n h e' = true → e' ≠ e → aAh A h e e' := by
  unfold aFirst at h0
  cases e1 : aFc A n m h with
  | some w =>
    rw [e1] at h0
    cases h0
    obtain ⟨k1, k2, k3⟩ := zbest_some e1
    simp only [Bool.and_eq_true, decide_eq_true_eq] at k2
    refine ⟨⟨by omega, by rw [if_pos (by omega), show (2 * w + 1) / 2 = w by omega]; exact k2.1⟩, by rw [aCs, if_pos (by omega), show (2 * w + 1) / 2 = w by omega]; exact k2.2, ?_⟩
    intro e' ⟨h1, h2⟩ h3 h4
    unfold aAh aTm
    by_cases q : e' % 2 = 1
    · rw [if_pos q] at h2
      rw [aCs, if_pos q] at h3
      have := k3 (e' / 2) h1 (by simp [h2, h3]) (by omega)
      rw [if_pos q, if_pos (show (2 * w + 1) % 2 = 1 by omega), show (2 * w + 1) / 2 = w by omega]
      omega
    · exact Or.inl ⟨by omega, by omega⟩
  | none =>
    rw [e1] at h0
    cases e2 : aFn A m h with
    | none => rw [e2] at h0; cases h0
    | some w =>
      rw [e2] at h0
      cases h0
      obtain ⟨k1, k2, k3⟩ := zbest_some e2
      have k2 : A 7 h w = 1 := by simpa using k2
      refine ⟨⟨by omega, by rw [if_neg (by omega), show 2 * w / 2 = w by omega]; exact k2⟩, by rw [aCs, if_neg (by omega)], ?_⟩
      intro e' ⟨h1, h2⟩ h3 h4
      unfold aAh aTm
      by_cases q : e' % 2 = 1
      · rw [if_pos q] at h2
        rw [aCs, if_pos q] at h3
        have := zbest_none e1 (e' / 2) h1
        simp [h2, h3] at this
      · rw [if_neg q] at h2
        have := k3 (e' / 2) h1 (by simp [h2]) (by omega)
        rw [if_neg q, if_neg (show ¬ (2 * w) % 2 = 1 by omega), show 2 * w / 2 = w by omega]
        omega
def aWish (A : zAb) (n m h : Nat) : Bool := !aQuiet A h (aT A) && !decide (A 1 h 3 < A 0 0 0) && !decide (A 0 3 0 ≤ A 1 h 7) && (aFirst A n m h).isSome
def zrest (P : Nat → Bool) (s : Nat → Nat) : Nat → Nat → Nat
  | 0, _ => 0
  | d + 1, h => (if P h = true then s h else 0) + zrest P s d (h + 1)
def zpick (P : Nat → Bool) (s : Nat → Nat) : Nat → Nat → Nat → Nat
  | 0, h, _ => h
  | d + 1, h, l => if P h = true then (if l < s h then h else zpick P s d (h + 1) (l - s h)) else zpick P s d (h + 1) l
theorem zpick_in {P : Nat → Bool} {s : Nat → Nat} : ∀ {d h l : Nat}, l < zrest P s d h → zpick P s d h l < h + d ∧ P (zpick P s d h l) = true
  | 0, h, l, hl => absurd hl (Nat.not_lt_zero l)
  | d + 1, h, l, hl => by
    rw [zrest] at hl
    rw [zpick]
    by_cases q : P h = true
    · rw [if_pos q] at hl ⊢
      by_cases q2 : l < s h
      · rw [if_pos q2]; exact ⟨by omega, q⟩
      · rw [if_neg q2]
        obtain ⟨h1, h2⟩ := zpick_in (P := P) (s := s) (d := d) (h := h + 1) (l := l - s h) (by omega)
        exact ⟨by omega, h2⟩
    · rw [if_neg q] at hl ⊢
      obtain ⟨h1, h2⟩ := zpick_in (P := P) (s := s) (d := d) (h := h + 1) (l := l) (by omega)
      exact ⟨by omega, h2⟩
def aSh (A : zAb) (h : Nat) : Nat := (A 1 h 4).toNatClampNeg
def aX (A : zAb) : Nat := (1103 * (A 0 9 0).toNatClampNeg + 12345) % 1000003
def aSum (A : zAb) (n m : Nat) : Nat := zrest (aWish A n m) (aSh A) n 0
def aSpk (A : zAb) (n m : Nat) : Nat := zpick (aWish A n m) (aSh A) n 0 (aX A % aSum A n m)
theorem zs_rest (P : Nat → Bool) (s : Nat → Nat) (f : Nat → Int32) (N : Nat) (hf : ∀ k, k < N → f k = nI (s k)) : ∀ n, n ≤ N → zs (fun h => if P h = true then f h else 0) n = nI (zrest P s n 0) := by
  have e : ∀ d h, zrest P s (d + 1) h = zrest P s d h + (if P (h + d) = true then s (h + d) else 0) := by
    intro d
    induction d with
    | zero => intro h; simp [zrest]
    | succ d ih =>
      intro h
      rw [zrest, ih (h + 1), zrest, show h + 1 + d = h + (d + 1) by omega]
      omega
  intro n
  induction n with
  | zero => intro _; rfl
  | succ n ih =>
    intro hn
    rw [zs, ih (by omega), e n 0, ← nI_add, Nat.zero_add]
    congr 1
    by_cases q : P n = true
    · simp only [if_pos q]; exact hf n (by omega)
    · simp only [if_neg q]; rfl
theorem zrest_pos {P : Nat → Bool} {s : Nat → Nat} : ∀ {d h : Nat}, (∃ i, h ≤ i ∧ i < h + d ∧ P i = true) → (∀ i, h ≤ i → i < h + d → 0 < s i) → 0 < zrest P s d h
  | 0, h, ⟨i, h1, h2, _⟩, _ => by omega
  | d + 1, h, ⟨i, h1, h2, h3⟩, hs => by
    rw [zrest]
    by_cases q : i = h
    · subst q
      rw [if_pos h3]
      have := hs i (Nat.le_refl i) (by omega)
      omega
    · have := zrest_pos (P := P) (s := s) (d := d) (h := h + 1) ⟨i, by omega, by omega, h3⟩ (fun i a b => hs i (by omega) (by omega))
      omega
theorem zrest_le {P : Nat → Bool} {s : Nat → Nat} {c : Nat} : ∀ {d h : Nat}, (∀ i, h ≤ i → i < h + d → s i ≤ c) → zrest P s d h ≤ d * c
  | 0, h, _ => Nat.zero_le _
  | d + 1, h, hs => by
    have := zrest_le (P := P) (s := s) (c := c) (d := d) (h := h + 1) (fun i a b => hs i (by omega) (by omega))
    have := hs h (Nat.le_refl h) (by omega)
    rw [zrest, Nat.succ_mul]
    split <;> omega
section MS
variable {σ : zSt} {A : zAb} {n m : Nat}
/-- the state behind the draw, and who is drawn -/
def aDrawn (A : zAb) (n m : Nat) : zAb := if zm (aWish A n m) n = 0 then A else aup A 0 9 0 (nI (aX A))
def aSpe (A : zAb) (n m : Nat) : Int32 := if zm (aWish A n m) n = 0 then -1 else nI (aSpk A n m)
theorem aSpk_in (hn : n ≤ 12) (hs : ∀ i, i < n → A 1 i 4 = nI (aSh A i) ∧ 0 < aSh A i ∧ aSh A i < 10) (hw : ¬ zm (aWish A n m) n = 0) : 0 < aSum A n m ∧ aSum A n m ≤ 120 ∧ aSpk A n m < n ∧ aWish A n m (aSpk A n m) = true := by
  have h1 : 0 < aSum A n m := by
    refine zrest_pos ?_ (fun i _ hi => (hs i (by omega)).2.1)
    apply Classical.byContradiction
    intro z
    apply hw
    rw [zm_zero (by omega)]
    intro i hi
    cases y : aWish A n m i with
    | false => rfl
    | true => exact absurd ⟨i, Nat.zero_le i, by omega, y⟩ z
  have h2 : aSum A n m ≤ n * 9 := zrest_le (fun i _ hi => by have := (hs i (by omega)).2.2; omega)
  have h3 := zpick_in (P := aWish A n m) (s := aSh A) (d := n) (h := 0) (l := aX A % aSum A n m) (Nat.mod_lt _ h1)
  rw [Nat.zero_add] at h3
  exact ⟨h1, by omega, h3.1, h3.2⟩
end MS

