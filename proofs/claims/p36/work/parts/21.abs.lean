/-! the abstract state: fields by name and two places; how the reference's ints keep it -/
abbrev zAb : Type := Nat → Nat → Nat → Int32
def aup (A : zAb) (f i j : Nat) (v : Int32) : zAb := fun f' i' j' => if f' = f ∧ i' = i ∧ j' = j then v else A f' i' j'
def zOk {α : Type} (r : Option α) (P : α → Prop) : Prop := ∃ x, r = some x ∧ P x
theorem zOk.of {α : Type} {r : Option α} {v : α} {P : α → Prop} (h : r = some v) (p : P v) : zOk r P := ⟨v, h, p⟩
theorem zOk.bind {α β : Type} {r : Option α} {f : α → Option β} {P : α → Prop} {Q : β → Prop} (h : zOk r P) (k : ∀ x, P x → zOk (f x) Q) : zOk (r.bind f) Q := by
  obtain ⟨x, rfl, p⟩ := h
  exact k x p
theorem zOk.eq {α β : Type} {r : Option α} {v : α} {f : α → Option β} {Q : β → Prop} (h : r = some v) (k : zOk (f v) Q) : zOk (r.bind f) Q := by
  subst h
  exact k
theorem zOk.bd2 {α β γ : Type} {r : Option (α × β)} {f : α → β → Option γ} {P : α × β → Prop} {Q : γ → Prop} (h : zOk r P) (k : ∀ x y, P (x, y) → zOk (f x y) Q) : zOk (bd2 r f) Q := by
  obtain ⟨⟨x, y⟩, rfl, p⟩ := h
  exact k x y p
theorem zOk.mono {α : Type} {r : Option α} {P Q : α → Prop} (h : zOk r P) (k : ∀ x, P x → Q x) : zOk r Q := by
  obtain ⟨x, e, p⟩ := h
  exact ⟨x, e, k x p⟩
theorem zOk.pos {α : Type} {c : Prop} [Decidable c] {a b : Option α} {Q : α → Prop} (h : c) (k : zOk a Q) : zOk (if c then a else b) Q := by rw [if_pos h]; exact k
theorem zOk.neg {α : Type} {c : Prop} [Decidable c] {a b : Option α} {Q : α → Prop} (h : ¬ c) (k : zOk b Q) : zOk (if c then a else b) Q := by rw [if_neg h]; exact k
theorem zOk.ite {α : Type} {c : Prop} [Decidable c] {a b : Option α} {Q : α → Prop} (k1 : c → zOk a Q) (k2 : ¬ c → zOk b Q) : zOk (if c then a else b) Q := by
  by_cases h : c
  · exact zOk.pos h (k1 h)
  · exact zOk.neg h (k2 h)
theorem zK_lt {n : Nat} (h : n < 100000) : n < zK := h
theorem inb_n {a N : Nat} (h : a < N) (hN : N < 2 ^ 31) : inb (nI a) N = true := by
  have e := nI_in h hN
  simp only [inb, Bool.and_eq_true, decide_eq_true_eq]
  constructor
  · exact fun q => e (Or.inl q)
  · rw [nI_clamp (by omega)]; exact h
def bI (b : Bool) : Int32 := if b = true then 1 else 0
theorem bI_01 (b : Bool) : bI b = 0 ∨ bI b = 1 := by cases b <;> simp [bI]
theorem bI_f {b : Bool} (h : b = false) : bI b = 0 := by rw [h]; rfl
theorem bI_t {b : Bool} (h : b = true) : ¬ bI b = 0 := by rw [h]; decide
theorem bI_1 {b : Bool} (h : b = true) : bI b = 1 := by rw [h]; rfl
theorem bI_0 (b : Bool) : bI b = 0 ↔ b = false := by cases b <;> simp [bI]
theorem bI_d {c : Prop} [Decidable c] {a b : Int32} (ha : c → a = 1) (hb : ¬ c → b = 0) : (if c then some a else some b) = some (bI (decide c)) := by
  by_cases h : c
  · rw [if_pos h, ha h]; simp [bI, h]
  · rw [if_neg h, hb h]; simp [bI, h]
theorem zst_at (σ : zSt) (g o i : Nat) (v : Int32) (g' o' i' : Nat) : (zst σ g o i v).1 g' o' i' = if g' = g ∧ o' = o ∧ i' = i then v else σ.1 g' o' i' := by
  show zup σ.1 g o i v g' o' i' = _
  by_cases h : (g', o') = (g, o)
  · obtain ⟨rfl, rfl⟩ := Prod.mk.inj h
    rw [zup_self]
    simp [upd]
  · rw [zup_ne _ _ _ h]
    have : ¬ (g' = g ∧ o' = o ∧ i' = i) := fun q => h (by rw [q.1, q.2.1])
    rw [if_neg this]
theorem zst_arr (σ : zSt) (g o i : Nat) (v : Int32) : (zst σ g o i v).1 g o = upd (σ.1 g o) i v := zup_self _ _ _ _ _
theorem zst_2 (σ : zSt) (g o i : Nat) (v : Int32) : (zst σ g o i v).2 = σ.2 := rfl
theorem m_a1 {h k : Nat} : ((12 : Int32) + ((10 : Int32) * nI h)) + nI k = nI (12 + 10 * h + k) := by
  rw [show (12 : Int32) = nI 12 from rfl, show (10 : Int32) = nI 10 from rfl, pk_mul, nI_add, nI_add]
theorem m_a2 {h k : Nat} : ((132 : Int32) + ((6 : Int32) * nI h)) + nI k = nI (132 + 6 * h + k) := by
  rw [show (132 : Int32) = nI 132 from rfl, show (6 : Int32) = nI 6 from rfl, pk_mul, nI_add, nI_add]
theorem m_a3 {h w k : Nat} : ((252 : Int32) + ((9 : Int32) * (((20 : Int32) * nI h) + nI w))) + nI k = nI (252 + 9 * (20 * h + w) + k) := by
  rw [show (252 : Int32) = nI 252 from rfl, show (9 : Int32) = nI 9 from rfl, show (20 : Int32) = nI 20 from rfl, pk_mul, nI_add, pk_mul, nI_add, nI_add]
/-! loops that gather a set -/
theorem z_maskS (T : Nat → Int32 → Int32 → Option Int32) {n : Nat} (hn : n < 32) (P : Nat → Bool) (h1 : ∀ k, k < n → P k = true → ∀ m a, T (m + 1) a (nI k) = T m (a + ((1 : Int32) <<< (nI k &&& 31))) (nI k + 1)) (h0 : ∀ k, k < n → P k = false → ∀ m a, T (m + 1) a (nI k) = T m (a + (0 : Int32)) (nI k + 1)) (he : ∀ m a, T (m + 1) a (nI n) = some a) : T zK 0 0 = some (zm P n) :=
  z_for (fun m k => T m (zm P k) (nI k)) n (zm P n) (fun k hk m => by
    show T (m + 1) (zm P k) (nI k) = T m (zm P (k + 1)) (nI (k + 1))
    by_cases h : P k = true
    · rw [h1 k hk h, zm_add (by omega), zm_s1 h, nI_1]
    · rw [h0 k hk (by simpa using h), zm_s0 (by simpa using h), nI_1, Int32.add_zero]) (fun m => he m _) zK (zK_lt (by omega))
theorem z_maskO (T : Nat → Int32 → Int32 → Option Int32) {n : Nat} (hn : n < 32) (P : Nat → Bool) (h1 : ∀ k, k < n → P k = true → ∀ m a, T (m + 1) a (nI k) = T m (a ||| ((1 : Int32) <<< (nI k &&& 31))) (nI k + 1)) (h0 : ∀ k, k < n → P k = false → ∀ m a, T (m + 1) a (nI k) = T m a (nI k + 1)) (he : ∀ m a, T (m + 1) a (nI n) = some a) : T zK 0 0 = some (zm P n) :=
  z_for (fun m k => T m (zm P k) (nI k)) n (zm P n) (fun k hk m => by
    show T (m + 1) (zm P k) (nI k) = T m (zm P (k + 1)) (nI (k + 1))
    by_cases h : P k = true
    · rw [h1 k hk h, zm_s1 h, nI_1]
    · rw [h0 k hk (by simpa using h), zm_s0 (by simpa using h), nI_1]) (fun m => he m _) zK (zK_lt (by omega))
/-! sums -/
def zs (f : Nat → Int32) : Nat → Int32
  | 0 => 0
  | n + 1 => zs f n + f n
theorem z_sum (T : Nat → Int32 → Int32 → Option Int32) {n : Nat} (hn : n < 90000) (f : Nat → Int32) (h1 : ∀ k, k < n → ∀ m a, T (m + 1) a (nI k) = T m (a + f k) (nI k + 1)) (he : ∀ m a, T (m + 1) a (nI n) = some a) : T zK 0 0 = some (zs f n) :=
  z_for (fun m k => T m (zs f k) (nI k)) n (zs f n) (fun k hk m => by
    show T (m + 1) (zs f k) (nI k) = T m (zs f (k + 1)) (nI (k + 1))
    rw [h1 k hk, nI_1]; rfl) (fun m => he m _) zK (zK_lt (by omega))
theorem zs_cong {f g : Nat → Int32} {n : Nat} (h : ∀ k, k < n → f k = g k) : zs f n = zs g n := by
  induction n with
  | zero => rfl
  | succ n ih => rw [zs, zs, ih (fun k hk => h k (by omega)), h n (by omega)]
theorem zs_ct (P : Nat → Bool) (n : Nat) : zs (fun k => bI (P k)) n = nI (fb_ct P n) := by
  induction n with
  | zero => rfl
  | succ n ih =>
    rw [zs, ih, fb_ct_succ, ← nI_add]
    cases P n <;> rfl
theorem nI_lt0 {n k : Nat} (hk : k < n) (hn : n < 2 ^ 31) : ¬ nI n ≤ nI k := nI_ge hk hn
theorem nI_le0 {n : Nat} (hn : n < 2 ^ 31) : nI n ≤ nI n := nI_le (Nat.le_refl n) hn

