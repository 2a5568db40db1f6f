/-! ===== Int32 by its bits: bt x i ===== -/
def bt (x : Int32) (i : Nat) : Bool := x.toBitVec.getLsbD i
theorem b_ext {x y : Int32} (h : ∀ i, i < 32 → bt x i = bt y i) : x = y := Int32.toBitVec_inj.mp (BitVec.eq_of_getLsbD_eq (fun i hi => h i hi))
theorem b_or (x y : Int32) (i : Nat) : bt (x ||| y) i = (bt x i || bt y i) := by unfold bt; rw [Int32.toBitVec_or, BitVec.getLsbD_or]
theorem b_and (x y : Int32) (i : Nat) : bt (x &&& y) i = (bt x i && bt y i) := by unfold bt; rw [Int32.toBitVec_and, BitVec.getLsbD_and]
theorem b_xor (x y : Int32) (i : Nat) : bt (x ^^^ y) i = (bt x i ^^ bt y i) := by unfold bt; rw [Int32.toBitVec_xor, BitVec.getLsbD_xor]
theorem b_big {x : Int32} {i : Nat} (h : 32 ≤ i) : bt x i = false := BitVec.getLsbD_of_ge _ _ h
theorem b_255 (i : Nat) : bt 255 i = decide (i < 8) := by
  rcases Nat.lt_or_ge i 32 with h | h
  · exact (by decide +kernel : ∀ i, i < 32 → bt 255 i = decide (i < 8)) i h
  · rw [b_big h, decide_eq_false (by omega)]
theorem b_65535 (i : Nat) : bt 65535 i = decide (i < 16) := by
  rcases Nat.lt_or_ge i 32 with h | h
  · exact (by decide +kernel : ∀ i, i < 32 → bt 65535 i = decide (i < 16)) i h
  · rw [b_big h, decide_eq_false (by omega)]
theorem b_m1 : ∀ i, i < 32 → bt (-1) i = true := by decide +kernel
theorem b_0 (i : Nat) : bt 0 i = false := BitVec.getLsbD_zero
theorem s_l : ∀ n, n < 32 → ((nI n &&& 31).toBitVec.smod 32).toNat = n := by decide +kernel
theorem s_u : ∀ n, n < 32 → (((nI n).toUInt32 &&& Int32.toUInt32 31).toBitVec % 32).toNat = n := by decide +kernel
theorem b_shl (n : Nat) (hn : n < 32) (x : Int32) {i : Nat} (hi : i < 32) : bt (x <<< (nI n &&& 31)) i = (decide (n ≤ i) && bt x (i - n)) := by
  unfold bt
  rw [Int32.toBitVec_shiftLeft]
  show (x.toBitVec <<< ((nI n &&& 31).toBitVec.smod 32).toNat).getLsbD i = _
  rw [s_l n hn, BitVec.getLsbD_shiftLeft]
  rcases Nat.lt_or_ge i n with h | h
  · simp [h, Nat.not_le.mpr h]
  · simp [hi, h, Nat.not_lt.mpr h]
theorem b_ushr (n : Nat) (hn : n < 32) (x : Int32) (i : Nat) : bt ((x.toUInt32 >>> ((nI n).toUInt32 &&& Int32.toUInt32 31)).toInt32) i = bt x (n + i) := by
  show (x.toUInt32 >>> ((nI n).toUInt32 &&& Int32.toUInt32 31)).toBitVec.getLsbD i = x.toUInt32.toBitVec.getLsbD (n + i)
  rw [UInt32.toBitVec_shiftRight]
  show (x.toUInt32.toBitVec >>> (((nI n).toUInt32 &&& Int32.toUInt32 31).toBitVec % 32).toNat).getLsbD i = _
  rw [s_u n hn, BitVec.getLsbD_ushiftRight]
theorem b_sshr (n : Nat) (hn : n < 32) (x : Int32) {i : Nat} (hi : i < 32) : bt (x >>> (nI n &&& 31)) i = if n + i < 32 then bt x (n + i) else bt x 31 := by
  unfold bt
  rw [Int32.toBitVec_shiftRight]
  show (x.toBitVec.sshiftRight ((nI n &&& 31).toBitVec.smod 32).toNat).getLsbD i = _
  rw [s_l n hn, BitVec.getLsbD_sshiftRight, BitVec.msb_eq_getLsbD_last]
  simp [hi]
theorem b_shl8 (x : Int32) {i : Nat} (hi : i < 32) : bt (x <<< ((8 : Int32) &&& 31)) i = (decide (8 ≤ i) && bt x (i - 8)) := b_shl 8 (by omega) x hi
theorem b_shl16 (x : Int32) {i : Nat} (hi : i < 32) : bt (x <<< ((16 : Int32) &&& 31)) i = (decide (16 ≤ i) && bt x (i - 16)) := b_shl 16 (by omega) x hi
theorem b_shl24 (x : Int32) {i : Nat} (hi : i < 32) : bt (x <<< ((24 : Int32) &&& 31)) i = (decide (24 ≤ i) && bt x (i - 24)) := b_shl 24 (by omega) x hi
theorem b_sshr8 (x : Int32) {i : Nat} (hi : i < 32) : bt (x >>> ((8 : Int32) &&& 31)) i = if 8 + i < 32 then bt x (8 + i) else bt x 31 := b_sshr 8 (by omega) x hi
/-! ===== nI under and, xor, >>>, one bit, 65535 ===== -/
theorem nx_and (a b : Nat) : nI a &&& nI b = nI (a &&& b) := by
  apply Int32.toBitVec_inj.1
  show BitVec.ofNat 32 a &&& BitVec.ofNat 32 b = BitVec.ofNat 32 (a &&& b)
  apply BitVec.eq_of_getLsbD_eq
  intro i hi
  simp [hi]
theorem nx_xor (a b : Nat) : nI a ^^^ nI b = nI (a ^^^ b) := by
  apply Int32.toBitVec_inj.1
  show BitVec.ofNat 32 a ^^^ BitVec.ofNat 32 b = BitVec.ofNat 32 (a ^^^ b)
  apply BitVec.eq_of_getLsbD_eq
  intro i hi
  simp [hi]
/-! ===== how many places have a property ===== -/
def fb_ct (p : Nat → Bool) : Nat → Nat
  | 0 => 0
  | n + 1 => fb_ct p n + (if p n then 1 else 0)
theorem fb_ct_succ (p : Nat → Bool) (n : Nat) : fb_ct p (n + 1) = fb_ct p n + (if p n then 1 else 0) := rfl
theorem fb_ct_le (p : Nat → Bool) : ∀ n, fb_ct p n ≤ n
  | 0 => Nat.le_refl _
  | n + 1 => by
    have h := fb_ct_le p n
    rw [fb_ct_succ]
    split <;> omega
theorem fb_ct_step (p : Nat → Bool) (m : Nat) : ∀ n, fb_ct p m ≤ fb_ct p (m + n)
  | 0 => Nat.le_refl _
  | n + 1 => by
    have h := fb_ct_step p m n
    show fb_ct p m ≤ fb_ct p (m + n + 1)
    rw [fb_ct_succ]
    omega
theorem fb_ct_mono (p : Nat → Bool) {m n : Nat} (h : m ≤ n) : fb_ct p m ≤ fb_ct p n := by
  have := fb_ct_step p m (n - m)
  rwa [Nat.add_sub_cancel' h] at this
theorem fb_ct_cong {p q : Nat → Bool} : ∀ {n : Nat}, (∀ k, k < n → p k = q k) → fb_ct p n = fb_ct q n
  | 0, _ => rfl
  | n + 1, h => by
    rw [fb_ct_succ, fb_ct_succ, fb_ct_cong (fun k hk => h k (by omega)), h n (by omega)]
/-- one place changed -/
theorem fb_ct_out (p : Nat → Bool) (b : Bool) {i n : Nat} (h : n ≤ i) : fb_ct (fun k => if k = i then b else p k) n = fb_ct p n :=
  fb_ct_cong fun k hk => if_neg (by omega)
theorem fb_ct_upd (p : Nat → Bool) (b : Bool) {i : Nat} : ∀ {n : Nat}, i < n → fb_ct (fun k => if k = i then b else p k) n + (if p i then 1 else 0) = fb_ct p n + (if b then 1 else 0)
  | 0, h => absurd h (Nat.not_lt_zero i)
  | n + 1, h => by
    rw [fb_ct_succ, fb_ct_succ]
    rcases Nat.lt_or_ge i n with q | q
    · have := fb_ct_upd p b q
      have e : (if n = i then b else p n) = p n := if_neg (by omega)
      rw [e]
      omega
    · have e : i = n := by omega
      subst e
      rw [fb_ct_out p b (Nat.le_refl _)]
      simp only [if_true]
      omega
theorem fb_ct_sub {p q : Nat → Bool} : ∀ {n : Nat}, (∀ k, k < n → p k = true → q k = true) → fb_ct p n ≤ fb_ct q n
  | 0, _ => Nat.le_refl _
  | n + 1, h => by
    have h1 := fb_ct_sub (n := n) (p := p) (q := q) (fun k hk => h k (by omega))
    have h2 := h n (by omega)
    rw [fb_ct_succ, fb_ct_succ]
    cases hp : p n <;> cases hq : q n <;> simp_all <;> omega
theorem fb_ct_or {p q : Nat → Bool} : ∀ {n : Nat}, (∀ k, k < n → ¬ (p k = true ∧ q k = true)) → fb_ct (fun k => p k || q k) n = fb_ct p n + fb_ct q n
  | 0, _ => rfl
  | n + 1, h => by
    have h1 := fb_ct_or (n := n) (p := p) (q := q) (fun k hk => h k (by omega))
    have h2 := h n (by omega)
    rw [fb_ct_succ, fb_ct_succ, fb_ct_succ, h1]
    cases hp : p n <;> cases hq : q n <;> simp_all <;> omega
theorem fb_ct_not (p : Nat → Bool) : ∀ n, fb_ct p n + fb_ct (fun k => !p k) n = n
  | 0 => rfl
  | n + 1 => by
    have h := fb_ct_not p n
    rw [fb_ct_succ, fb_ct_succ]
    cases p n <;> simp <;> omega
theorem fb_ct_split (p : Nat → Bool) (m : Nat) : ∀ n, fb_ct p (m + n) = fb_ct p m + fb_ct (fun k => p (m + k)) n
  | 0 => rfl
  | n + 1 => by
    have h := fb_ct_split p m n
    show fb_ct p (m + n + 1) = _
    rw [fb_ct_succ, fb_ct_succ, h, Nat.add_assoc]
theorem fb_ct_zero {p : Nat → Bool} : ∀ {n : Nat}, fb_ct p n = 0 ↔ ∀ k, k < n → p k = false
  | 0 => ⟨fun _ k hk => absurd hk (Nat.not_lt_zero k), fun _ => rfl⟩
  | n + 1 => by
    have h := fb_ct_zero (p := p) (n := n)
    rw [fb_ct_succ]
    constructor
    · intro e k hk
      have e1 : fb_ct p n = 0 := by omega
      rcases Nat.lt_or_ge k n with q | q
      · exact h.mp e1 k q
      · have ek : k = n := by omega
        subst ek
        cases hp : p k
        · rfl
        · simp [hp] at e
    · intro a
      rw [h.mpr (fun k hk => a k (by omega)), a n (by omega)]
      rfl
theorem fb_ct_pos {p : Nat → Bool} {n : Nat} : 0 < fb_ct p n ↔ ∃ k, k < n ∧ p k = true := by
  constructor
  · intro h
    refine Classical.byContradiction fun hx => ?_
    have := fb_ct_zero.mpr (fun k hk => by
      cases hp : p k
      · rfl
      · exact absurd ⟨k, hk, hp⟩ hx : ∀ k, k < n → p k = false)
    omega
  · rintro ⟨k, hk, hp⟩
    rcases Nat.eq_zero_or_pos (fb_ct p n) with e | e
    · have := fb_ct_zero.mp e k hk
      rw [this] at hp
      cases hp
    · exact e
theorem fb_ct_all {p : Nat → Bool} {n : Nat} : fb_ct p n = n ↔ ∀ k, k < n → p k = true := by
  have h := fb_ct_not p n
  constructor
  · intro e k hk
    have z : fb_ct (fun k => !p k) n = 0 := by omega
    have := fb_ct_zero.mp z k hk
    cases hp : p k
    · simp [hp] at this
    · rfl
  · intro a
    have z : fb_ct (fun k => !p k) n = 0 := fb_ct_zero.mpr (fun k hk => by simp [a k hk])
    omega
/-- the k-th place with the property -/
theorem fb_ct_kth {p : Nat → Bool} {k : Nat} : ∀ {n : Nat}, k < fb_ct p n → ∃ i, i < n ∧ p i = true ∧ fb_ct p i = k
  | 0, h => absurd h (Nat.not_lt_zero k)
  | n + 1, h => by
    rcases Nat.lt_or_ge k (fb_ct p n) with q | q
    · obtain ⟨i, h1, h2⟩ := fb_ct_kth q
      exact ⟨i, by omega, h2⟩
    · rw [fb_ct_succ] at h
      cases hp : p n
      · simp [hp] at h; omega
      · simp [hp] at h
        exact ⟨n, by omega, hp, by omega⟩
theorem fb_ct_kth_one {p : Nat → Bool} {i j : Nat} (hi : p i = true) (hj : p j = true) (e : fb_ct p i = fb_ct p j) : i = j := by
  have key : ∀ a b : Nat, a < b → p a = true → fb_ct p a < fb_ct p b := by
    intro a b hab ha
    have h := fb_ct_mono p (show a + 1 ≤ b from hab)
    rw [fb_ct_succ, ha] at h
    simp at h
    omega
  rcases Nat.lt_trichotomy i j with q | q | q
  · have := key i j q hi; omega
  · exact q
  · have := key j i q hj; omega
/-! sets of small numbers as bits of an int -/
def zm (P : Nat → Bool) : Nat → Int32
  | 0 => 0
  | n + 1 => if P n = true then zm P n ||| ((1 : Int32) <<< (nI n &&& 31)) else zm P n
theorem zm_s1 {P : Nat → Bool} {n : Nat} (h : P n = true) : zm P (n + 1) = zm P n ||| ((1 : Int32) <<< (nI n &&& 31)) := if_pos h
theorem zm_s0 {P : Nat → Bool} {n : Nat} (h : P n = false) : zm P (n + 1) = zm P n := if_neg (by rw [h]; decide)
theorem b_1 : ∀ k, k < 32 → bt 1 k = decide (k = 0) := by decide +kernel
theorem b_one {n i : Nat} (hn : n < 32) (hi : i < 32) : bt ((1 : Int32) <<< (nI n &&& 31)) i = decide (i = n) := by
  rw [b_shl n hn 1 hi, b_1 _ (by omega)]
  by_cases h : i = n
  · subst h; simp
  · rcases Nat.lt_or_ge i n with q | q
    · simp [h, Nat.not_le.mpr q]
    · have e : ¬ i - n = 0 := by omega
      simp [h, e]
theorem zm_bt (P : Nat → Bool) : ∀ {n i : Nat}, n ≤ 32 → i < 32 → bt (zm P n) i = (decide (i < n) && P i)
  | 0, i, _, _ => by rw [zm, b_0]; simp
  | n + 1, i, hn, hi => by
    have ih := zm_bt P (n := n) (i := i) (by omega) hi
    by_cases h : P n = true
    · rw [zm_s1 h, b_or, ih, b_one (by omega) hi]
      by_cases e : i = n
      · subst e; simp [h]
      · by_cases q : i < n
        · simp [e, q, Nat.lt_succ_of_lt q]
        · have q2 : ¬ i < n + 1 := by omega
          simp [e, q, q2]
    · have h0 : P n = false := by simpa using h
      rw [zm_s0 h0, ih]
      by_cases e : i = n
      · subst e; simp [h0]
      · have : (i < n + 1) = (i < n) := by simp; omega
        simp [this]
theorem zm_ext {P Q : Nat → Bool} {n k : Nat} (hn : n ≤ 32) (hk : k ≤ 32) (h : ∀ i, i < 32 → (decide (i < n) && P i) = (decide (i < k) && Q i)) : zm P n = zm Q k := by
  apply b_ext
  intro i hi
  rw [zm_bt P hn hi, zm_bt Q hk hi, h i hi]
theorem zm_congr {P Q : Nat → Bool} {n : Nat} (h : ∀ i, i < n → P i = Q i) : zm P n = zm Q n := by
  induction n with
  | zero => rfl
  | succ n ih =>
    have e := ih (fun i hi => h i (by omega))
    have e2 := h n (by omega)
    rw [zm, zm, e, e2]
theorem zm_grow {P : Nat → Bool} {n k : Nat} (hk : k ≤ 32) (hn : n ≤ k) (h : ∀ i, n ≤ i → i < k → P i = false) : zm P n = zm P k :=
  zm_ext (by omega) hk (fun i hi => by
    by_cases q : i < n
    · have : i < k := by omega
      simp [q, this]
    · by_cases q2 : i < k
      · simp [q, q2, h i (by omega) q2]
      · simp [q, q2])
theorem b_get (x : Int32) {k : Nat} (hk : k < 32) : ((x >>> (nI k &&& 31)) &&& 1) = if bt x k = true then 1 else 0 := by
  apply b_ext
  intro i hi
  rw [b_and, b_sshr k hk x hi, b_1 i hi]
  by_cases h : i = 0
  · subst h
    have : k + 0 < 32 := by omega
    rw [if_pos this]
    cases q : bt x k <;> simp [q, b_1, b_0]
  · cases q : bt x k <;> simp [h, b_0, b_1, hi]
theorem b_has (x : Int32) {k : Nat} (hk : k < 32) : ((x >>> (nI k &&& 31)) &&& 1) = 0 ↔ bt x k = false := by
  rw [b_get x hk]
  cases bt x k <;> simp
theorem zm_has {P : Nat → Bool} {n k : Nat} (hn : n ≤ 32) (hk : k < n) : ((zm P n >>> (nI k &&& 31)) &&& 1) = 0 ↔ P k = false := by
  rw [b_has _ (by omega), zm_bt P hn (by omega)]
  simp [hk]
theorem zm_get {P : Nat → Bool} {n k : Nat} (hn : n ≤ 32) (hk : k < n) : ((zm P n >>> (nI k &&& 31)) &&& 1) = if P k = true then 1 else 0 := by
  rw [b_get _ (by omega), zm_bt P hn (by omega)]
  simp [hk]
theorem zm_get0 {P : Nat → Bool} {n k : Nat} (hn : n ≤ 32) (hk : n ≤ k) (h : k < 32) : ((zm P n >>> (nI k &&& 31)) &&& 1) = 0 := by
  rw [b_has _ h, zm_bt P hn h]
  simp [Nat.not_lt.mpr hk]
theorem zm_and {P Q : Nat → Bool} {n : Nat} (hn : n ≤ 32) : zm P n &&& zm Q n = zm (fun i => P i && Q i) n := by
  apply b_ext
  intro i hi
  rw [b_and, zm_bt _ hn hi, zm_bt _ hn hi, zm_bt _ hn hi]
  cases decide (i < n) <;> simp
theorem zm_or {P Q : Nat → Bool} {n : Nat} (hn : n ≤ 32) : zm P n ||| zm Q n = zm (fun i => P i || Q i) n := by
  apply b_ext
  intro i hi
  rw [b_or, zm_bt _ hn hi, zm_bt _ hn hi, zm_bt _ hn hi]
  cases decide (i < n) <;> simp
theorem zm_andn {P Q : Nat → Bool} {n : Nat} (hn : n ≤ 32) : zm P n &&& (zm Q n ^^^ (-1)) = zm (fun i => P i && !Q i) n := by
  apply b_ext
  intro i hi
  rw [b_and, b_xor, zm_bt _ hn hi, zm_bt _ hn hi, zm_bt _ hn hi, b_m1 i hi]
  cases decide (i < n) <;> simp
theorem zm_bit {n k : Nat} (hn : n ≤ 32) (hk : k < n) : (1 : Int32) <<< (nI k &&& 31) = zm (fun i => decide (i = k)) n := by
  apply b_ext
  intro i hi
  rw [b_one (by omega) hi, zm_bt _ hn hi]
  by_cases h : i = k
  · subst h; simp [hk]
  · simp [h]
theorem zm_join {P : Nat → Bool} {n k : Nat} (hn : n ≤ 32) (hk : k < n) : zm P n ||| ((1 : Int32) <<< (nI k &&& 31)) = zm (fun i => P i || decide (i = k)) n := by
  rw [zm_bit hn hk, zm_or hn]
theorem zm_leave {P : Nat → Bool} {n k : Nat} (hn : n ≤ 32) (hk : k < n) : zm P n &&& (((1 : Int32) <<< (nI k &&& 31)) ^^^ (-1)) = zm (fun i => P i && !decide (i = k)) n := by
  rw [zm_bit hn hk, zm_andn hn]
theorem zm_zero {P : Nat → Bool} {n : Nat} (hn : n ≤ 32) : zm P n = 0 ↔ ∀ i, i < n → P i = false := by
  constructor
  · intro h i hi
    have e := zm_bt P hn (i := i) (by omega)
    rw [h, b_0] at e
    simpa [hi] using e.symm
  · intro h
    apply b_ext
    intro i hi
    rw [zm_bt P hn hi, b_0]
    by_cases q : i < n
    · simp [h i q]
    · simp [q]
theorem zm_add {P : Nat → Bool} {n : Nat} (hn : n < 32) : zm P n + ((1 : Int32) <<< (nI n &&& 31)) = zm P n ||| ((1 : Int32) <<< (nI n &&& 31)) := by
  apply Int32.toBitVec_inj.mp
  rw [Int32.toBitVec_add, Int32.toBitVec_or]
  apply BitVec.add_eq_or_of_and_eq_zero
  apply BitVec.eq_of_getLsbD_eq
  intro i hi
  rw [BitVec.getLsbD_and]
  have e1 := zm_bt P (n := n) (i := i) (by omega) hi
  have e2 := b_one (n := n) (i := i) hn hi
  unfold bt at e1 e2
  rw [e1, e2]
  by_cases h : i = n
  · subst h; simp
  · simp [h]
theorem zm_sub {P Q : Nat → Bool} {n : Nat} (hn : n ≤ 32) (h : ∀ i, i < n → P i = true → Q i = true) : zm P n ||| zm Q n = zm Q n := by
  rw [zm_or hn]
  exact zm_congr (fun i hi => by cases q : P i <;> simp [h i hi, q])
theorem zm_inj {P Q : Nat → Bool} {n : Nat} (hn : n ≤ 32) (h : zm P n = zm Q n) : ∀ i, i < n → P i = Q i := by
  intro i hi
  have e := congrArg (fun x => bt x i) h
  simp only [zm_bt _ hn (show i < 32 by omega)] at e
  simpa [hi] using e
/-! how many: bitCount -/
def zn (P : Nat → Bool) : Nat → Nat
  | 0 => 0
  | n + 1 => zn P n + if P n = true then 2 ^ n else 0
theorem zn_lt (P : Nat → Bool) : ∀ n, zn P n < 2 ^ n
  | 0 => by simp [zn]
  | n + 1 => by
    have ih := zn_lt P n
    rw [zn, Nat.pow_succ]
    split <;> omega
theorem zm_zn (P : Nat → Bool) : ∀ {n : Nat}, n ≤ 31 → zm P n = nI (zn P n)
  | 0, _ => rfl
  | n + 1, hn => by
    have ih := zm_zn P (n := n) (by omega)
    by_cases h : P n = true
    · rw [zm_s1 h, ← zm_add (by omega), ih, zn, if_pos h, ← nI_add]
      congr 1
      exact (by decide +kernel : ∀ n, n < 31 → (1 : Int32) <<< (nI n &&& 31) = nI (2 ^ n)) n (by omega)
    · rw [zm_s0 (by simpa using h), ih, zn, if_neg h, Nat.add_zero]
theorem zn_split (P : Nat → Bool) (m : Nat) : ∀ n, zn P (m + n) = zn P m + 2 ^ m * zn (fun k => P (m + k)) n
  | 0 => by simp [zn]
  | n + 1 => by
    rw [← Nat.add_assoc, zn, zn_split P m n, zn, Nat.mul_add, Nat.add_assoc]
    congr 2
    split <;> simp [Nat.pow_add]
theorem zn_fit (P : Nat → Bool) (n : Nat) : ∀ k, n ≤ k → zn (fun i => P i && decide (i < n)) k = zn P n
  | 0, h => by have : n = 0 := by omega
               subst this; rfl
  | k + 1, h => by
    rcases Nat.eq_or_lt_of_le h with e | e
    · subst e
      have : ∀ j, j ≤ k + 1 → zn (fun i => P i && decide (i < k + 1)) j = zn P j := by
        intro j
        induction j with
        | zero => intro _; rfl
        | succ j ih => intro hj; rw [zn, zn, ih (by omega)]; simp [show j < k + 1 by omega]
      exact this _ (Nat.le_refl _)
    · rw [zn, zn_fit P n k (by omega)]
      simp [show ¬ k < n by omega]
theorem fb_fit (P : Nat → Bool) (n : Nat) : ∀ k, n ≤ k → fb_ct (fun i => P i && decide (i < n)) k = fb_ct P n
  | 0, h => by have : n = 0 := by omega
               subst this; rfl
  | k + 1, h => by
    rcases Nat.eq_or_lt_of_le h with e | e
    · subst e
      exact fb_ct_cong (fun j hj => by simp [hj])
    · rw [fb_ct_succ, fb_fit P n k (by omega)]
      simp [show ¬ k < n by omega]
theorem z_cat (k a b m q : Nat) (ha : a < 2 ^ k) (hm : m < 2 ^ k) : (2 ^ k * b + a) &&& (2 ^ k * q + m) = 2 ^ k * (b &&& q) + (a &&& m) := by
  have hb : a &&& m < 2 ^ k := Nat.lt_of_le_of_lt Nat.and_le_left ha
  apply Nat.eq_of_testBit_eq
  intro i
  rw [Nat.testBit_and, Nat.testBit_two_pow_mul_add _ ha, Nat.testBit_two_pow_mul_add _ hm, Nat.testBit_two_pow_mul_add _ hb]
  split <;> rw [Nat.testBit_and]
theorem z_cat8 (a b m q : Nat) (ha : a < 256) (hm : m < 256) : (256 * b + a) &&& (256 * q + m) = 256 * (b &&& q) + (a &&& m) := z_cat 8 a b m q ha hm
def zby1 (b : Nat) : Nat := b - (b / 2 &&& 85)
def zby2 (b : Nat) : Nat := (zby1 b &&& 51) + (zby1 b / 4 &&& 51)
def zby3 (b : Nat) : Nat := (zby2 b + zby2 b / 16) &&& 15
theorem zby_1 : ∀ b, b < 256 → ∀ c, c < 2 → (b / 2 + 128 * c) &&& 85 = b / 2 &&& 85 := by decide +kernel
theorem zby_1l : ∀ b, b < 256 → (b / 2 &&& 85) ≤ b ∧ zby1 b < 256 ∧ zby2 b < 69 ∧ zby3 b ≤ 8 := by decide +kernel
theorem zby_2 : ∀ b, b < 256 → ∀ c, c < 4 → (zby1 b / 4 + 64 * c) &&& 51 = zby1 b / 4 &&& 51 := by decide +kernel
theorem zby_3 : ∀ b, b < 256 → ∀ c, c < 16 → (zby2 b + zby2 b / 16 + 16 * c) &&& 15 = zby3 b := by decide +kernel
theorem zby_p (P : Nat → Bool) : zby3 (zn P 8) = fb_ct P 8 := by
  simp only [zn, fb_ct]
  generalize P 0 = b0, P 1 = b1, P 2 = b2, P 3 = b3, P 4 = b4, P 5 = b5, P 6 = b6, P 7 = b7
  revert b0 b1 b2 b3 b4 b5 b6 b7
  decide +kernel
theorem z_cat3 (a0 a1 a2 m : Nat) (h0 : a0 < 256) (h1 : a1 < 256) (hm : m < 256) (h2 : a2 &&& (256 * m + m) = a2 &&& m) : (256 * (256 * a2 + a1) + a0) &&& (256 * (256 * (256 * m + m) + m) + m) = 256 * (256 * (a2 &&& m) + (a1 &&& m)) + (a0 &&& m) := by
  rw [z_cat8 _ _ _ _ h0 hm, z_cat8 _ _ _ _ h1 hm, h2]
theorem z_hi (m : Nat) (hm : m < 256) (a : Nat) (ha : a < 256) : a &&& (256 * m + m) = a &&& m := by
  have e := z_cat8 a 0 m m ha hm
  simpa using e
theorem pz_pop {b0 b1 b2 : Nat} (h0 : b0 < 256) (h1 : b1 < 256) (h2 : b2 < 16) : F_Integer_bitCount (nI (256 * (256 * b2 + b1) + b0)) = some (nI (zby3 b0 + zby3 b1 + zby3 b2)) := by
  obtain ⟨l0, l0', l0'', l0x⟩ := zby_1l b0 h0
  obtain ⟨l1, l1', l1'', l1x⟩ := zby_1l b1 h1
  obtain ⟨l2, l2', l2'', l2x⟩ := zby_1l b2 (by omega)
  have c1 : (1431655765 : Int32) = nI (256 * (256 * (256 * 85 + 85) + 85) + 85) := rfl
  have c2 : (858993459 : Int32) = nI (256 * (256 * (256 * 51 + 51) + 51) + 51) := rfl
  have c3 : (252645135 : Int32) = nI (256 * (256 * (256 * 15 + 15) + 15) + 15) := rfl
  have c4 : (63 : Int32) = nI (2 ^ 6 - 1) := rfl
  have hN : 256 * (256 * b2 + b1) + b0 < 1048576 := by omega
  have s1 : ((nI (256 * (256 * b2 + b1) + b0)).toUInt32 >>> ((1 : Int32).toUInt32 &&& Int32.toUInt32 31)).toInt32 &&& (1431655765 : Int32) = nI (256 * (256 * (b2 / 2 &&& 85) + (b1 / 2 &&& 85)) + (b0 / 2 &&& 85)) := by
    rw [pk_ushrN (by omega) 1 1 (by decide), c1, nx_and]
    have e : (256 * (256 * b2 + b1) + b0) / 2 ^ 1 = 256 * (256 * (b2 / 2) + (b1 / 2 + 128 * (b2 % 2))) + (b0 / 2 + 128 * (b1 % 2)) := by omega
    rw [e, z_cat3 _ _ _ 85 (by omega) (by omega) (by omega) (z_hi 85 (by omega) _ (by omega)), zby_1 b0 h0 _ (by omega), zby_1 b1 h1 _ (by omega)]
  have s2 : nI (256 * (256 * b2 + b1) + b0) - nI (256 * (256 * (b2 / 2 &&& 85) + (b1 / 2 &&& 85)) + (b0 / 2 &&& 85)) = nI (256 * (256 * zby1 b2 + zby1 b1) + zby1 b0) := by
    rw [pk_sub (by omega)]
    congr 1
    simp only [zby1] at l0' l1' l2' ⊢
    omega
  have s3 : nI (256 * (256 * zby1 b2 + zby1 b1) + zby1 b0) &&& (858993459 : Int32) = nI (256 * (256 * (zby1 b2 &&& 51) + (zby1 b1 &&& 51)) + (zby1 b0 &&& 51)) := by
    rw [c2, nx_and, z_cat3 _ _ _ 51 l0' l1' (by omega) (z_hi 51 (by omega) _ l2')]
  have s4 : ((nI (256 * (256 * zby1 b2 + zby1 b1) + zby1 b0)).toUInt32 >>> ((2 : Int32).toUInt32 &&& Int32.toUInt32 31)).toInt32 &&& (858993459 : Int32) = nI (256 * (256 * (zby1 b2 / 4 &&& 51) + (zby1 b1 / 4 &&& 51)) + (zby1 b0 / 4 &&& 51)) := by
    rw [pk_ushrN (by omega) 2 2 (by decide), c2, nx_and]
    have e : (256 * (256 * zby1 b2 + zby1 b1) + zby1 b0) / 2 ^ 2 = 256 * (256 * (zby1 b2 / 4) + (zby1 b1 / 4 + 64 * (zby1 b2 % 4))) + (zby1 b0 / 4 + 64 * (zby1 b1 % 4)) := by omega
    rw [e, z_cat3 _ _ _ 51 (by omega) (by omega) (by omega) (z_hi 51 (by omega) _ (by omega)), zby_2 b0 h0 _ (by omega), zby_2 b1 h1 _ (by omega)]
  have s5 : nI (256 * (256 * (zby1 b2 &&& 51) + (zby1 b1 &&& 51)) + (zby1 b0 &&& 51)) + nI (256 * (256 * (zby1 b2 / 4 &&& 51) + (zby1 b1 / 4 &&& 51)) + (zby1 b0 / 4 &&& 51)) = nI (256 * (256 * zby2 b2 + zby2 b1) + zby2 b0) := by
    rw [nI_add]
    congr 1
    simp only [zby2]
    omega
  have s6 : (nI (256 * (256 * zby2 b2 + zby2 b1) + zby2 b0) + ((nI (256 * (256 * zby2 b2 + zby2 b1) + zby2 b0)).toUInt32 >>> ((4 : Int32).toUInt32 &&& Int32.toUInt32 31)).toInt32) &&& (252645135 : Int32) = nI (256 * (256 * zby3 b2 + zby3 b1) + zby3 b0) := by
    rw [pk_ushrN (by omega) 4 4 (by decide), nI_add, c3, nx_and]
    have e : 256 * (256 * zby2 b2 + zby2 b1) + zby2 b0 + (256 * (256 * zby2 b2 + zby2 b1) + zby2 b0) / 2 ^ 4 = 256 * (256 * (zby2 b2 + zby2 b2 / 16 + 16 * 0) + (zby2 b1 + zby2 b1 / 16 + 16 * (zby2 b2 % 16))) + (zby2 b0 + zby2 b0 / 16 + 16 * (zby2 b1 % 16)) := by omega
    have q0 := zby_3 b0 h0 (zby2 b1 % 16) (by omega)
    have q1 := zby_3 b1 h1 (zby2 b2 % 16) (by omega)
    have q2 := zby_3 b2 (by omega) 0 (by omega)
    have t : ∀ b c, b < 69 → c < 69 → b + b / 16 + 16 * (c % 16) < 512 := by omega
    rw [e]
    have u0 : zby2 b0 + zby2 b0 / 16 + 16 * (zby2 b1 % 16) < 256 := (by decide +kernel : ∀ x, x < 256 → ∀ y, y < 256 → zby2 x + zby2 x / 16 + 16 * (zby2 y % 16) < 256) b0 h0 b1 h1
    have u1 : zby2 b1 + zby2 b1 / 16 + 16 * (zby2 b2 % 16) < 256 := (by decide +kernel : ∀ x, x < 256 → ∀ y, y < 256 → zby2 x + zby2 x / 16 + 16 * (zby2 y % 16) < 256) b1 h1 b2 (by omega)
    rw [z_cat3 _ _ _ 15 u0 u1 (by omega) (z_hi 15 (by omega) _ (by omega)), q0, q1, q2]
  have s7 : nI (256 * (256 * zby3 b2 + zby3 b1) + zby3 b0) + ((nI (256 * (256 * zby3 b2 + zby3 b1) + zby3 b0)).toUInt32 >>> ((8 : Int32).toUInt32 &&& Int32.toUInt32 31)).toInt32 = nI (256 * (256 * zby3 b2 + (zby3 b1 + zby3 b2)) + (zby3 b0 + zby3 b1)) := by
    rw [pk_ushrN (by omega) 8 8 (by decide), nI_add]
    congr 1
    omega
  have s8 : (nI (256 * (256 * zby3 b2 + (zby3 b1 + zby3 b2)) + (zby3 b0 + zby3 b1)) + ((nI (256 * (256 * zby3 b2 + (zby3 b1 + zby3 b2)) + (zby3 b0 + zby3 b1))).toUInt32 >>> ((16 : Int32).toUInt32 &&& Int32.toUInt32 31)).toInt32) &&& (63 : Int32) = nI (zby3 b0 + zby3 b1 + zby3 b2) := by
    have e5 : (256 * (256 * zby3 b2 + (zby3 b1 + zby3 b2)) + (zby3 b0 + zby3 b1)) / 2 ^ 16 = zby3 b2 := by omega
    rw [pk_ushrN (by omega) 16 16 (by decide), e5, nI_add, pk_andN (by omega) 6 (by decide)]
    congr 1
    omega
  rw [F_Integer_bitCount, s1, s2, s3, s4, s5, s6, s7, s8]
theorem z_bitCount (P : Nat → Bool) {n : Nat} (hn : n ≤ 20) : F_Integer_bitCount (zm P n) = some (nI (fb_ct P n)) := by
  have e : zm P n = zm (fun i => P i && decide (i < n)) 20 := zm_ext (by omega) (by omega) (fun i _ => by
    by_cases q : i < n
    · have : i < 20 := by omega
      simp [q, this]
    · simp [q])
  rw [e, ← fb_fit P n 20 hn]
  generalize (fun i => P i && decide (i < n)) = Q
  rw [zm_zn Q (by omega)]
  have e1 : zn Q 20 = zn Q 8 + 2 ^ 8 * zn (fun k => Q (8 + k)) 12 := zn_split Q 8 12
  have e2 : zn (fun k => Q (8 + k)) 12 = zn (fun k => Q (8 + k)) 8 + 2 ^ 8 * zn (fun k => Q (8 + (8 + k))) 4 := zn_split (fun k => Q (8 + k)) 8 4
  have f1 : fb_ct Q 20 = fb_ct Q 8 + fb_ct (fun k => Q (8 + k)) 12 := fb_ct_split Q 8 12
  have f2 : fb_ct (fun k => Q (8 + k)) 12 = fb_ct (fun k => Q (8 + k)) 8 + fb_ct (fun k => Q (8 + (8 + k))) 4 := fb_ct_split (fun k => Q (8 + k)) 8 4
  have g := zby_p Q
  have g1 := zby_p (fun k => Q (8 + k))
  have g2 := zby_p (fun k => Q (8 + (8 + k)) && decide (k < 4))
  rw [fb_fit (fun k => Q (8 + (8 + k))) 4 8 (by omega), zn_fit (fun k => Q (8 + (8 + k))) 4 8 (by omega)] at g2
  have b0 := zn_lt Q 8
  have b1 := zn_lt (fun k => Q (8 + k)) 8
  have b2 := zn_lt (fun k => Q (8 + (8 + k))) 4
  have p := pz_pop b0 b1 b2
  rw [show zn Q 20 = 256 * (256 * zn (fun k => Q (8 + (8 + k))) 4 + zn (fun k => Q (8 + k)) 8) + zn Q 8 by omega, p, g, g1, g2]
  congr 2
  omega
theorem z_bit1 {n k : Nat} (hn : n ≤ 32) (hk : k < n) (σ : zSt) : F_Waves_bit (nI k) σ = some (zm (fun i => decide (i = k)) n) := by
  rw [F_Waves_bit, zm_bit hn hk]
theorem z_contains {P : Nat → Bool} {n k : Nat} (hn : n ≤ 32) (hk : k < n) (σ : zSt) : F_Waves_contains (zm P n) (nI k) σ = some (if P k = true then 1 else 0) := by
  rw [F_Waves_contains, zm_get hn hk]
  cases P k <;> simp
theorem z_contains0 {P : Nat → Bool} {n k : Nat} (hn : n ≤ 32) (hk : n ≤ k) (h : k < 32) (σ : zSt) : F_Waves_contains (zm P n) (nI k) σ = some 0 := by
  rw [F_Waves_contains, zm_get0 hn hk h]
  simp
/-! loops -/
theorem z_for {γ : Type} (T : Nat → Nat → Option γ) (N : Nat) (r : γ) (hs : ∀ k, k < N → ∀ m, T (m + 1) k = T m (k + 1)) (he : ∀ m, T (m + 1) N = some r) : ∀ m, N < m → T m 0 = some r := by
  have key : ∀ d k m, k + d = N → d < m → T m k = some r := by
    intro d
    induction d with
    | zero =>
      intro k m h hm
      obtain ⟨m', rfl⟩ : ∃ m', m = m' + 1 := ⟨m - 1, by omega⟩
      have : k = N := by omega
      subst this
      exact he m'
    | succ d ih =>
      intro k m h hm
      obtain ⟨m', rfl⟩ : ∃ m', m = m' + 1 := ⟨m - 1, by omega⟩
      rw [hs k (by omega) m']
      exact ih (k + 1) m' (by omega) (by omega)
  intro m hm
  exact key N 0 m (by omega) hm
theorem z_forI {γ α : Type} (T : Nat → Nat → α → Option γ) (N : Nat) (I : Nat → α → Prop) (Q : γ → Prop) (hs : ∀ k s, k < N → I k s → ∃ s', I (k + 1) s' ∧ ∀ m, T (m + 1) k s = T m (k + 1) s') (he : ∀ s, I N s → ∃ r, Q r ∧ ∀ m, T (m + 1) N s = some r) : ∀ m s, N < m → I 0 s → ∃ r, T m 0 s = some r ∧ Q r := by
  have key : ∀ d k m s, k + d = N → d < m → I k s → ∃ r, T m k s = some r ∧ Q r := by
    intro d
    induction d with
    | zero =>
      intro k m s h hm hi
      obtain ⟨m', rfl⟩ : ∃ m', m = m' + 1 := ⟨m - 1, by omega⟩
      have : k = N := by omega
      subst this
      obtain ⟨r, h1, h2⟩ := he s hi
      exact ⟨r, h2 m', h1⟩
    | succ d ih =>
      intro k m s h hm hi
      obtain ⟨m', rfl⟩ : ∃ m', m = m' + 1 := ⟨m - 1, by omega⟩
      obtain ⟨s', h1, h2⟩ := hs k s (by omega) hi
      rw [h2 m']
      exact ih (k + 1) m' s' (by omega) (by omega) h1
  intro m s hm hi
  exact key N 0 m s (by omega) hm hi


