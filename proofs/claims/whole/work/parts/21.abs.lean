/-! the abstract state: fields by name and two places; how the reference's ints keep it -/
abbrev zAb : Type := Nat → Nat → Nat → Int32
def aup (A : zAb) (f i j : Nat) (v : Int32) : zAb := fun f' i' j' => if f' = f ∧ i' = i ∧ j' = j then v else A f' i' j'
def zOk {α : Type} (r : Option α) (P : α → Prop) : Prop := ∃ x, r = some x ∧ P x
theorem zOk.of {α : Type} {r : Option α} {v : α} {P : α → Prop} (h : r = some v) (p : P v) : zOk r P := ⟨v, h, p⟩
theorem zOk.bind {α β : Type} {r : Option α} {f : α → Option β} {P : α → Prop} {Q : β → Prop} (h : zOk r P) (k : ∀ x, P x → zOk (f x) Q) : zOk (r.bind f) Q := by
  obtain ⟨x, rfl, p⟩ := h
  exact k x p
theorem zOk.eq {α β : Type} {r : Option α} {v : α} {f : α → Option β} {Q : β → Prop} (h : r = some v) (k : zOk (f v) Q) : zOk (r.bind f) Q := by
  subst h
  exact k
theorem zOk.bd2 {α β γ : Type} {r : Option (α × β)} {f : α → β → Option γ} {P : α × β → Prop} {Q : γ → Prop} (h : zOk r P) (k : ∀ x y, P (x, y) → zOk (f x y) Q) : zOk (bd2 r f) Q := by
  obtain ⟨⟨x, y⟩, rfl, p⟩ := h
  exact k x y p
theorem zOk.mono {α : Type} {r : Option α} {P Q : α → Prop} (h : zOk r P) (k : ∀ x, P x → Q x) : zOk r Q := by
  obtain ⟨x, e, p⟩ := h
  exact ⟨x, e, k x p⟩
theorem zOk.pos {α : Type} {c : Prop} [Decidable c] {a b : Option α} {Q : α → Prop} (h : c) (k : zOk a Q) : zOk (if c then a else b) Q := by rw [if_pos h]; exact k
theorem zOk.neg {α : Type} {c : Prop} [Decidable c] {a b : Option α} {Q : α → Prop} (h : ¬ c) (k : zOk b Q) : zOk (if c then a else b) Q := by rw [if_neg h]; exact k
theorem zOk.ite {α : Type} {c : Prop} [Decidable c] {a b : Option α} {Q : α → Prop} (k1 : c → zOk a Q) (k2 : ¬ c → zOk b Q) : zOk (if c then a else b) Q := by
  by_cases h : c
  · exact zOk.pos h (k1 h)
  · exact zOk.neg h (k2 h)
theorem zK_lt {n : Nat} (h : n < 100000) : n < zK := h
theorem inb_n {a N : Nat} (h : a < N) (hN : N < 2 ^ 31) : inb (nI a) N = true := by
  have e := nI_in h hN
  simp only [inb, Bool.and_eq_true, decide_eq_true_eq]
  constructor
  · exact fun q => e (Or.inl q)
  · rw [nI_clamp (by omega)]; exact h
def bI (b : Bool) : Int32 := if b = true then 1 else 0
theorem bI_01 (b : Bool) : bI b = 0 ∨ bI b = 1 := by cases b <;> simp [bI]
theorem bI_f {b : Bool} (h : b = false) : bI b = 0 := by rw [h]; rfl
theorem bI_t {b : Bool} (h : b = true) : ¬ bI b = 0 := by rw [h]; decide
theorem bI_1 {b : Bool} (h : b = true) : bI b = 1 := by rw [h]; rfl
theorem bI_0 (b : Bool) : bI b = 0 ↔ b = false := by cases b <;> simp [bI]
theorem bI_d {c : Prop} [Decidable c] {a b : Int32} (ha : c → a = 1) (hb : ¬ c → b = 0) : (if c then some a else some b) = some (bI (decide c)) := by
  by_cases h : c
  · rw [if_pos h, ha h]; simp [bI, h]
  · rw [if_neg h, hb h]; simp [bI, h]
/-! the ints of the reference -/
def zMo (f : Nat → Int32) (A : zAb) : Prop :=
  (∀ k, k < 12 → f k = A 0 k 0) ∧ (∀ h k, h < 12 → k < 10 → f (12 + 10 * h + k) = A 1 h k) ∧ (∀ w k, w < 20 → k < 6 → f (132 + 6 * w + k) = A 2 w k) ∧
  (∀ p h w, p < 9 → h < 12 → w < 20 → f (252 + 9 * (20 * h + w) + p) = A (3 + p) h w) ∧ (∀ i k, i < 30 → k < 6 → f (2412 + 6 * i + k) = A 12 i k)
theorem zMo_up {f : Nat → Int32} {A : zAb} (hM : zMo f A) {a F i j : Nat} (v : Int32)
    (h0 : ∀ k, k < 12 → (k = a ↔ (0 = F ∧ k = i ∧ 0 = j))) (h1 : ∀ h k, h < 12 → k < 10 → (12 + 10 * h + k = a ↔ (1 = F ∧ h = i ∧ k = j)))
    (h2 : ∀ w k, w < 20 → k < 6 → (132 + 6 * w + k = a ↔ (2 = F ∧ w = i ∧ k = j))) (h3 : ∀ p h w, p < 9 → h < 12 → w < 20 → (252 + 9 * (20 * h + w) + p = a ↔ (3 + p = F ∧ h = i ∧ w = j)))
    (h4 : ∀ i' k, i' < 30 → k < 6 → (2412 + 6 * i' + k = a ↔ (12 = F ∧ i' = i ∧ k = j))) : zMo (upd f a v) (aup A F i j v) := by
  obtain ⟨m0, m1, m2, m3, m4⟩ := hM
  refine ⟨fun k hk => ?_, fun h k hh hk => ?_, fun w k hw hk => ?_, fun p h w hp hh hw => ?_, fun i' k hi hk => ?_⟩
  · simp only [upd, aup, h0 k hk, m0 k hk]
  · simp only [upd, aup, h1 h k hh hk, m1 h k hh hk]
  · simp only [upd, aup, h2 w k hw hk, m2 w k hw hk]
  · simp only [upd, aup, h3 p h w hp hh hw, m3 p h w hp hh hw]
  · simp only [upd, aup, h4 i' k hi hk, m4 i' k hi hk]
theorem zMo_0 {f : Nat → Int32} {A : zAb} (hM : zMo f A) {k : Nat} (hk : k < 12) (v : Int32) : zMo (upd f k v) (aup A 0 k 0 v) :=
  zMo_up hM v (fun _ _ => by omega) (fun _ _ _ _ => by omega) (fun _ _ _ _ => by omega) (fun _ _ _ _ _ _ => by omega) (fun _ _ _ _ => by omega)
theorem zMo_1 {f : Nat → Int32} {A : zAb} (hM : zMo f A) {h k : Nat} (hh : h < 12) (hk : k < 10) (v : Int32) : zMo (upd f (12 + 10 * h + k) v) (aup A 1 h k v) :=
  zMo_up hM v (fun _ _ => by omega) (fun _ _ _ _ => by omega) (fun _ _ _ _ => by omega) (fun _ _ _ _ _ _ => by omega) (fun _ _ _ _ => by omega)
theorem zMo_2 {f : Nat → Int32} {A : zAb} (hM : zMo f A) {h k : Nat} (hh : h < 20) (hk : k < 6) (v : Int32) : zMo (upd f (132 + 6 * h + k) v) (aup A 2 h k v) :=
  zMo_up hM v (fun _ _ => by omega) (fun _ _ _ _ => by omega) (fun _ _ _ _ => by omega) (fun _ _ _ _ _ _ => by omega) (fun _ _ _ _ => by omega)
theorem zMo_3 {f : Nat → Int32} {A : zAb} (hM : zMo f A) {h w p : Nat} (hh : h < 12) (hw : w < 20) (hp : p < 9) (v : Int32) : zMo (upd f (252 + 9 * (20 * h + w) + p) v) (aup A (3 + p) h w v) :=
  zMo_up hM v (fun _ _ => by omega) (fun _ _ _ _ => by omega) (fun _ _ _ _ => by omega) (fun _ _ _ _ _ _ => by omega) (fun _ _ _ _ => by omega)
theorem zMo_4 {f : Nat → Int32} {A : zAb} (hM : zMo f A) {h k : Nat} (hh : h < 30) (hk : k < 6) (v : Int32) : zMo (upd f (2412 + 6 * h + k) v) (aup A 12 h k v) :=
  zMo_up hM v (fun _ _ => by omega) (fun _ _ _ _ => by omega) (fun _ _ _ _ => by omega) (fun _ _ _ _ _ _ => by omega) (fun _ _ _ _ => by omega)
theorem zMo_13 {f : Nat → Int32} {A : zAb} (hM : zMo f A) (i j : Nat) (v : Int32) : zMo f (aup A 13 i j v) := by
  obtain ⟨m0, m1, m2, m3, m4⟩ := hM
  refine ⟨fun k hk => ?_, fun h k hh hk => ?_, fun w k hw hk => ?_, fun p h w hp hh hw => ?_, fun i' k hi hk => ?_⟩
  · simpa [aup] using m0 k hk
  · simpa [aup] using m1 h k hh hk
  · simpa [aup] using m2 w k hw hk
  · have : ¬ 3 + p = 13 := by omega
    simpa [aup, this] using m3 p h w hp hh hw
  · simpa [aup] using m4 i' k hi hk
def zMr (σ : zSt) (A : zAb) : Prop := zMo (σ.1 4 81) A ∧ σ.1 4 80 21 = A 13 21 0 ∧ σ.1 4 80 22 = A 13 22 0 ∧ σ.1 4 80 23 = A 13 23 0
/-- what the reference's inner methods may write -/
def zfM (σ σ' : zSt) : Prop := (∀ g o i, (g ≠ 4 ∨ (o ≠ 80 ∧ o ≠ 81 ∧ o ≠ 90)) → σ'.1 g o i = σ.1 g o i) ∧ (∀ i, i < 20 → σ'.1 4 80 i = σ.1 4 80 i) ∧ σ'.2 = σ.2
theorem zfM.rf (σ : zSt) : zfM σ σ := ⟨fun _ _ _ _ => rfl, fun _ _ => rfl, rfl⟩
theorem zfM.tr {σ σ2 σ3 : zSt} (h : zfM σ σ2) (h2 : zfM σ2 σ3) : zfM σ σ3 :=
  ⟨fun g o i q => (h2.1 g o i q).trans (h.1 g o i q), fun i q => (h2.2.1 i q).trans (h.2.1 i q), h2.2.2.trans h.2.2⟩
theorem zst_at (σ : zSt) (g o i : Nat) (v : Int32) (g' o' i' : Nat) : (zst σ g o i v).1 g' o' i' = if g' = g ∧ o' = o ∧ i' = i then v else σ.1 g' o' i' := by
  show zup σ.1 g o i v g' o' i' = _
  by_cases h : (g', o') = (g, o)
  · obtain ⟨rfl, rfl⟩ := Prod.mk.inj h
    rw [zup_self]
    simp [upd]
  · rw [zup_ne _ _ _ h]
    have : ¬ (g' = g ∧ o' = o ∧ i' = i) := fun q => h (by rw [q.1, q.2.1])
    rw [if_neg this]
theorem zst_arr (σ : zSt) (g o i : Nat) (v : Int32) : (zst σ g o i v).1 g o = upd (σ.1 g o) i v := zup_self _ _ _ _ _
theorem zst_2 (σ : zSt) (g o i : Nat) (v : Int32) : (zst σ g o i v).2 = σ.2 := rfl
theorem zfM.a81 (σ : zSt) (i : Nat) (v : Int32) : zfM σ (zst σ 4 81 i v) :=
  ⟨fun g o j q => by rw [zst_at, if_neg (by omega)], fun j _ => by rw [zst_at, if_neg (by omega)], rfl⟩
theorem zfM.a90 (σ : zSt) (i : Nat) (v : Int32) : zfM σ (zst σ 4 90 i v) :=
  ⟨fun g o j q => by rw [zst_at, if_neg (by omega)], fun j _ => by rw [zst_at, if_neg (by omega)], rfl⟩
theorem zfM.a80 (σ : zSt) {i : Nat} (hi : 20 ≤ i) (v : Int32) : zfM σ (zst σ 4 80 i v) :=
  ⟨fun g o j q => by rw [zst_at, if_neg (by omega)], fun j _ => by rw [zst_at, if_neg (by omega)], rfl⟩
theorem zMr.up {σ : zSt} {A : zAb} (hM : zMr σ A) {a F i j : Nat} {v : Int32} (hF : F ≠ 13) (h : zMo (upd (σ.1 4 81) a v) (aup A F i j v)) : zMr (zst σ 4 81 a v) (aup A F i j v) := by
  obtain ⟨m, a1, a2, a3⟩ := hM
  have nf : ∀ k, ¬ (13 = F ∧ k = i ∧ 0 = j) := fun k q => hF q.1.symm
  refine ⟨by rw [zst_arr]; exact h, ?_, ?_, ?_⟩
  · rw [zst_at, if_neg (by omega), a1, aup, if_neg (nf _)]
  · rw [zst_at, if_neg (by omega), a2, aup, if_neg (nf _)]
  · rw [zst_at, if_neg (by omega), a3, aup, if_neg (nf _)]
theorem zMr.sc {σ : zSt} {A : zAb} (hM : zMr σ A) {k : Nat} (hk : k < 12) : σ.1 4 81 k = A 0 k 0 := hM.1.1 k hk
theorem zMr.ps {σ : zSt} {A : zAb} (hM : zMr σ A) {k : Nat} (hk : k < 12) (v : Int32) : zMr (zst σ 4 81 k v) (aup A 0 k 0 v) := hM.up (by decide) (zMo_0 hM.1 hk v)
theorem zMr.log {σ : zSt} {A : zAb} (hM : zMr σ A) {i k : Nat} (hi : i < 30) (hk : k < 6) (v : Int32) : zMr (zst σ 4 81 (2412 + 6 * i + k) v) (aup A 12 i k v) := hM.up (by decide) (zMo_4 hM.1 hi hk v)
theorem zMr.same {σ σ' : zSt} {A : zAb} (hM : zMr σ A) (h : ∀ i, σ'.1 4 81 i = σ.1 4 81 i) (h2 : ∀ i, 20 < i → σ'.1 4 80 i = σ.1 4 80 i) : zMr σ' A := by
  have e : σ'.1 4 81 = σ.1 4 81 := funext h
  refine ⟨by rw [e]; exact hM.1, ?_, ?_, ?_⟩
  · rw [h2 21 (by omega)]; exact hM.2.1
  · rw [h2 22 (by omega)]; exact hM.2.2.1
  · rw [h2 23 (by omega)]; exact hM.2.2.2
theorem zMr.q90 {σ : zSt} {A : zAb} (hM : zMr σ A) (i : Nat) (v : Int32) : zMr (zst σ 4 90 i v) A := hM.same (fun j => by rw [zst_at, if_neg (by omega)]) (fun j hj => by rw [zst_at, if_neg (by omega)])
theorem zMr.q20 {σ : zSt} {A : zAb} (hM : zMr σ A) {i : Nat} (hi : i < 21) (v : Int32) : zMr (zst σ 4 80 i v) A := hM.same (fun j => by rw [zst_at, if_neg (by omega)]) (fun j hj => by rw [zst_at, if_neg (by omega)])
theorem zMr.c21 {σ : zSt} {A : zAb} (hM : zMr σ A) (v : Int32) : zMr (zst σ 4 80 21 v) (aup A 13 21 0 v) := by
  obtain ⟨m, a1, a2, a3⟩ := hM
  refine ⟨?_, ?_, ?_, ?_⟩
  · have e : (zst σ 4 80 21 v).1 4 81 = σ.1 4 81 := funext (fun j => by rw [zst_at, if_neg (by omega)])
    rw [e]; exact zMo_13 m _ _ _
  · rw [zst_at, a1]; simp [aup]
  · rw [zst_at, a2]; simp [aup]
  · rw [zst_at, a3]; simp [aup]
theorem zMr.c22 {σ : zSt} {A : zAb} (hM : zMr σ A) (v : Int32) : zMr (zst σ 4 80 22 v) (aup A 13 22 0 v) := by
  obtain ⟨m, a1, a2, a3⟩ := hM
  refine ⟨?_, ?_, ?_, ?_⟩
  · have e : (zst σ 4 80 22 v).1 4 81 = σ.1 4 81 := funext (fun j => by rw [zst_at, if_neg (by omega)])
    rw [e]; exact zMo_13 m _ _ _
  · rw [zst_at, a1]; simp [aup]
  · rw [zst_at, a2]; simp [aup]
  · rw [zst_at, a3]; simp [aup]
theorem zMr.c23 {σ : zSt} {A : zAb} (hM : zMr σ A) (v : Int32) : zMr (zst σ 4 80 23 v) (aup A 13 23 0 v) := by
  obtain ⟨m, a1, a2, a3⟩ := hM
  refine ⟨?_, ?_, ?_, ?_⟩
  · have e : (zst σ 4 80 23 v).1 4 81 = σ.1 4 81 := funext (fun j => by rw [zst_at, if_neg (by omega)])
    rw [e]; exact zMo_13 m _ _ _
  · rw [zst_at, a1]; simp [aup]
  · rw [zst_at, a2]; simp [aup]
  · rw [zst_at, a3]; simp [aup]
theorem m_a1 {h k : Nat} : ((12 : Int32) + ((10 : Int32) * nI h)) + nI k = nI (12 + 10 * h + k) := by
  rw [show (12 : Int32) = nI 12 from rfl, show (10 : Int32) = nI 10 from rfl, pk_mul, nI_add, nI_add]
theorem m_a2 {h k : Nat} : ((132 : Int32) + ((6 : Int32) * nI h)) + nI k = nI (132 + 6 * h + k) := by
  rw [show (132 : Int32) = nI 132 from rfl, show (6 : Int32) = nI 6 from rfl, pk_mul, nI_add, nI_add]
theorem m_a3 {h w k : Nat} : ((252 : Int32) + ((9 : Int32) * (((20 : Int32) * nI h) + nI w))) + nI k = nI (252 + 9 * (20 * h + w) + k) := by
  rw [show (252 : Int32) = nI 252 from rfl, show (9 : Int32) = nI 9 from rfl, show (20 : Int32) = nI 20 from rfl, pk_mul, nI_add, pk_mul, nI_add, nI_add]
theorem m_of {σ : zSt} {A : zAb} (hM : zMr σ A) {h k : Nat} (hh : h < 12) (hk : k < 10) : F_Model_of (nI h) (nI k) σ = some (A 1 h k) := by
  rw [F_Model_of, m_a1, if_pos (inb_n (by omega) (by omega)), nI_clamp (by omega), hM.1.2.1 h k hh hk]
theorem m_put {σ : zSt} {A : zAb} (hM : zMr σ A) {h k : Nat} (hh : h < 12) (hk : k < 10) (v : Int32) : zOk (F_Model_put (nI h) (nI k) v σ) (fun σ' => zMr σ' (aup A 1 h k v) ∧ zfM σ σ') := by
  rw [F_Model_put, m_a1, if_pos (inb_n (by omega) (by omega)), nI_clamp (by omega)]
  exact ⟨_, rfl, hM.up (by decide) (zMo_1 hM.1 hh hk v), zfM.a81 _ _ _⟩
theorem m_story {σ : zSt} {A : zAb} (hM : zMr σ A) {h k : Nat} (hh : h < 20) (hk : k < 6) : F_Model_story (nI h) (nI k) σ = some (A 2 h k) := by
  rw [F_Model_story, m_a2, if_pos (inb_n (by omega) (by omega)), nI_clamp (by omega), hM.1.2.2.1 h k hh hk]
theorem m_tell {σ : zSt} {A : zAb} (hM : zMr σ A) {h k : Nat} (hh : h < 20) (hk : k < 6) (v : Int32) : zOk (F_Model_tellStory (nI h) (nI k) v σ) (fun σ' => zMr σ' (aup A 2 h k v) ∧ zfM σ σ') := by
  rw [F_Model_tellStory, m_a2, if_pos (inb_n (by omega) (by omega)), nI_clamp (by omega)]
  exact ⟨_, rfl, hM.up (by decide) (zMo_2 hM.1 hh hk v), zfM.a81 _ _ _⟩
theorem m_pair {σ : zSt} {A : zAb} (hM : zMr σ A) {h w k : Nat} (hh : h < 12) (hw : w < 20) (hk : k < 9) : F_Model_pair (nI h) (nI w) (nI k) σ = some (A (3 + k) h w) := by
  rw [F_Model_pair, F_Model_pairPlace, Option.bind_some, m_a3, if_pos (inb_n (by omega) (by omega)), nI_clamp (by omega), hM.1.2.2.2.1 k h w hk hh hw]
theorem m_setp {σ : zSt} {A : zAb} (hM : zMr σ A) {h w k : Nat} (hh : h < 12) (hw : w < 20) (hk : k < 9) (v : Int32) : zOk (F_Model_setPair (nI h) (nI w) (nI k) v σ) (fun σ' => zMr σ' (aup A (3 + k) h w v) ∧ zfM σ σ') := by
  rw [F_Model_setPair, F_Model_pairPlace, Option.bind_some, m_a3, if_pos (inb_n (by omega) (by omega)), nI_clamp (by omega)]
  have e : 3 + k ≠ 13 := by omega
  exact ⟨_, rfl, hM.up e (zMo_3 hM.1 hh hw hk v), zfM.a81 _ _ _⟩
theorem m_of0 {σ : zSt} {A : zAb} (hM : zMr σ A) {h : Nat} (hh : h < 12) : F_Model_of (nI h) (0 : Int32) σ = some (A 1 h 0) := m_of (k := 0) hM hh (by decide)
theorem m_put0 {σ : zSt} {A : zAb} (hM : zMr σ A) {h : Nat} (hh : h < 12) (v : Int32) : zOk (F_Model_put (nI h) (0 : Int32) v σ) (fun σ' => zMr σ' (aup A 1 h 0 v) ∧ zfM σ σ') := m_put (k := 0) hM hh (by decide) v
theorem m_pair0 {σ : zSt} {A : zAb} (hM : zMr σ A) {h w : Nat} (hh : h < 12) (hw : w < 20) : F_Model_pair (nI h) (nI w) (0 : Int32) σ = some (A 3 h w) := m_pair (k := 0) hM hh hw (by decide)
theorem m_setp0 {σ : zSt} {A : zAb} (hM : zMr σ A) {h w : Nat} (hh : h < 12) (hw : w < 20) (v : Int32) : zOk (F_Model_setPair (nI h) (nI w) (0 : Int32) v σ) (fun σ' => zMr σ' (aup A 3 h w v) ∧ zfM σ σ') := m_setp (k := 0) hM hh hw (by decide) v
theorem m_of1 {σ : zSt} {A : zAb} (hM : zMr σ A) {h : Nat} (hh : h < 12) : F_Model_of (nI h) (1 : Int32) σ = some (A 1 h 1) := m_of (k := 1) hM hh (by decide)
theorem m_put1 {σ : zSt} {A : zAb} (hM : zMr σ A) {h : Nat} (hh : h < 12) (v : Int32) : zOk (F_Model_put (nI h) (1 : Int32) v σ) (fun σ' => zMr σ' (aup A 1 h 1 v) ∧ zfM σ σ') := m_put (k := 1) hM hh (by decide) v
theorem m_pair1 {σ : zSt} {A : zAb} (hM : zMr σ A) {h w : Nat} (hh : h < 12) (hw : w < 20) : F_Model_pair (nI h) (nI w) (1 : Int32) σ = some (A 4 h w) := m_pair (k := 1) hM hh hw (by decide)
theorem m_setp1 {σ : zSt} {A : zAb} (hM : zMr σ A) {h w : Nat} (hh : h < 12) (hw : w < 20) (v : Int32) : zOk (F_Model_setPair (nI h) (nI w) (1 : Int32) v σ) (fun σ' => zMr σ' (aup A 4 h w v) ∧ zfM σ σ') := m_setp (k := 1) hM hh hw (by decide) v
theorem m_of2 {σ : zSt} {A : zAb} (hM : zMr σ A) {h : Nat} (hh : h < 12) : F_Model_of (nI h) (2 : Int32) σ = some (A 1 h 2) := m_of (k := 2) hM hh (by decide)
theorem m_put2 {σ : zSt} {A : zAb} (hM : zMr σ A) {h : Nat} (hh : h < 12) (v : Int32) : zOk (F_Model_put (nI h) (2 : Int32) v σ) (fun σ' => zMr σ' (aup A 1 h 2 v) ∧ zfM σ σ') := m_put (k := 2) hM hh (by decide) v
theorem m_pair2 {σ : zSt} {A : zAb} (hM : zMr σ A) {h w : Nat} (hh : h < 12) (hw : w < 20) : F_Model_pair (nI h) (nI w) (2 : Int32) σ = some (A 5 h w) := m_pair (k := 2) hM hh hw (by decide)
theorem m_setp2 {σ : zSt} {A : zAb} (hM : zMr σ A) {h w : Nat} (hh : h < 12) (hw : w < 20) (v : Int32) : zOk (F_Model_setPair (nI h) (nI w) (2 : Int32) v σ) (fun σ' => zMr σ' (aup A 5 h w v) ∧ zfM σ σ') := m_setp (k := 2) hM hh hw (by decide) v
theorem m_of3 {σ : zSt} {A : zAb} (hM : zMr σ A) {h : Nat} (hh : h < 12) : F_Model_of (nI h) (3 : Int32) σ = some (A 1 h 3) := m_of (k := 3) hM hh (by decide)
theorem m_put3 {σ : zSt} {A : zAb} (hM : zMr σ A) {h : Nat} (hh : h < 12) (v : Int32) : zOk (F_Model_put (nI h) (3 : Int32) v σ) (fun σ' => zMr σ' (aup A 1 h 3 v) ∧ zfM σ σ') := m_put (k := 3) hM hh (by decide) v
theorem m_pair3 {σ : zSt} {A : zAb} (hM : zMr σ A) {h w : Nat} (hh : h < 12) (hw : w < 20) : F_Model_pair (nI h) (nI w) (3 : Int32) σ = some (A 6 h w) := m_pair (k := 3) hM hh hw (by decide)
theorem m_setp3 {σ : zSt} {A : zAb} (hM : zMr σ A) {h w : Nat} (hh : h < 12) (hw : w < 20) (v : Int32) : zOk (F_Model_setPair (nI h) (nI w) (3 : Int32) v σ) (fun σ' => zMr σ' (aup A 6 h w v) ∧ zfM σ σ') := m_setp (k := 3) hM hh hw (by decide) v
theorem m_of4 {σ : zSt} {A : zAb} (hM : zMr σ A) {h : Nat} (hh : h < 12) : F_Model_of (nI h) (4 : Int32) σ = some (A 1 h 4) := m_of (k := 4) hM hh (by decide)
theorem m_put4 {σ : zSt} {A : zAb} (hM : zMr σ A) {h : Nat} (hh : h < 12) (v : Int32) : zOk (F_Model_put (nI h) (4 : Int32) v σ) (fun σ' => zMr σ' (aup A 1 h 4 v) ∧ zfM σ σ') := m_put (k := 4) hM hh (by decide) v
theorem m_pair4 {σ : zSt} {A : zAb} (hM : zMr σ A) {h w : Nat} (hh : h < 12) (hw : w < 20) : F_Model_pair (nI h) (nI w) (4 : Int32) σ = some (A 7 h w) := m_pair (k := 4) hM hh hw (by decide)
theorem m_setp4 {σ : zSt} {A : zAb} (hM : zMr σ A) {h w : Nat} (hh : h < 12) (hw : w < 20) (v : Int32) : zOk (F_Model_setPair (nI h) (nI w) (4 : Int32) v σ) (fun σ' => zMr σ' (aup A 7 h w v) ∧ zfM σ σ') := m_setp (k := 4) hM hh hw (by decide) v
theorem m_of5 {σ : zSt} {A : zAb} (hM : zMr σ A) {h : Nat} (hh : h < 12) : F_Model_of (nI h) (5 : Int32) σ = some (A 1 h 5) := m_of (k := 5) hM hh (by decide)
theorem m_put5 {σ : zSt} {A : zAb} (hM : zMr σ A) {h : Nat} (hh : h < 12) (v : Int32) : zOk (F_Model_put (nI h) (5 : Int32) v σ) (fun σ' => zMr σ' (aup A 1 h 5 v) ∧ zfM σ σ') := m_put (k := 5) hM hh (by decide) v
theorem m_pair5 {σ : zSt} {A : zAb} (hM : zMr σ A) {h w : Nat} (hh : h < 12) (hw : w < 20) : F_Model_pair (nI h) (nI w) (5 : Int32) σ = some (A 8 h w) := m_pair (k := 5) hM hh hw (by decide)
theorem m_setp5 {σ : zSt} {A : zAb} (hM : zMr σ A) {h w : Nat} (hh : h < 12) (hw : w < 20) (v : Int32) : zOk (F_Model_setPair (nI h) (nI w) (5 : Int32) v σ) (fun σ' => zMr σ' (aup A 8 h w v) ∧ zfM σ σ') := m_setp (k := 5) hM hh hw (by decide) v
theorem m_of6 {σ : zSt} {A : zAb} (hM : zMr σ A) {h : Nat} (hh : h < 12) : F_Model_of (nI h) (6 : Int32) σ = some (A 1 h 6) := m_of (k := 6) hM hh (by decide)
theorem m_put6 {σ : zSt} {A : zAb} (hM : zMr σ A) {h : Nat} (hh : h < 12) (v : Int32) : zOk (F_Model_put (nI h) (6 : Int32) v σ) (fun σ' => zMr σ' (aup A 1 h 6 v) ∧ zfM σ σ') := m_put (k := 6) hM hh (by decide) v
theorem m_pair6 {σ : zSt} {A : zAb} (hM : zMr σ A) {h w : Nat} (hh : h < 12) (hw : w < 20) : F_Model_pair (nI h) (nI w) (6 : Int32) σ = some (A 9 h w) := m_pair (k := 6) hM hh hw (by decide)
theorem m_setp6 {σ : zSt} {A : zAb} (hM : zMr σ A) {h w : Nat} (hh : h < 12) (hw : w < 20) (v : Int32) : zOk (F_Model_setPair (nI h) (nI w) (6 : Int32) v σ) (fun σ' => zMr σ' (aup A 9 h w v) ∧ zfM σ σ') := m_setp (k := 6) hM hh hw (by decide) v
theorem m_of7 {σ : zSt} {A : zAb} (hM : zMr σ A) {h : Nat} (hh : h < 12) : F_Model_of (nI h) (7 : Int32) σ = some (A 1 h 7) := m_of (k := 7) hM hh (by decide)
theorem m_put7 {σ : zSt} {A : zAb} (hM : zMr σ A) {h : Nat} (hh : h < 12) (v : Int32) : zOk (F_Model_put (nI h) (7 : Int32) v σ) (fun σ' => zMr σ' (aup A 1 h 7 v) ∧ zfM σ σ') := m_put (k := 7) hM hh (by decide) v
theorem m_pair7 {σ : zSt} {A : zAb} (hM : zMr σ A) {h w : Nat} (hh : h < 12) (hw : w < 20) : F_Model_pair (nI h) (nI w) (7 : Int32) σ = some (A 10 h w) := m_pair (k := 7) hM hh hw (by decide)
theorem m_setp7 {σ : zSt} {A : zAb} (hM : zMr σ A) {h w : Nat} (hh : h < 12) (hw : w < 20) (v : Int32) : zOk (F_Model_setPair (nI h) (nI w) (7 : Int32) v σ) (fun σ' => zMr σ' (aup A 10 h w v) ∧ zfM σ σ') := m_setp (k := 7) hM hh hw (by decide) v
theorem m_of8 {σ : zSt} {A : zAb} (hM : zMr σ A) {h : Nat} (hh : h < 12) : F_Model_of (nI h) (8 : Int32) σ = some (A 1 h 8) := m_of (k := 8) hM hh (by decide)
theorem m_put8 {σ : zSt} {A : zAb} (hM : zMr σ A) {h : Nat} (hh : h < 12) (v : Int32) : zOk (F_Model_put (nI h) (8 : Int32) v σ) (fun σ' => zMr σ' (aup A 1 h 8 v) ∧ zfM σ σ') := m_put (k := 8) hM hh (by decide) v
theorem m_pair8 {σ : zSt} {A : zAb} (hM : zMr σ A) {h w : Nat} (hh : h < 12) (hw : w < 20) : F_Model_pair (nI h) (nI w) (8 : Int32) σ = some (A 11 h w) := m_pair (k := 8) hM hh hw (by decide)
theorem m_setp8 {σ : zSt} {A : zAb} (hM : zMr σ A) {h w : Nat} (hh : h < 12) (hw : w < 20) (v : Int32) : zOk (F_Model_setPair (nI h) (nI w) (8 : Int32) v σ) (fun σ' => zMr σ' (aup A 11 h w v) ∧ zfM σ σ') := m_setp (k := 8) hM hh hw (by decide) v
theorem m_story0 {σ : zSt} {A : zAb} (hM : zMr σ A) {w : Nat} (hw : w < 20) : F_Model_story (nI w) (0 : Int32) σ = some (A 2 w 0) := m_story (k := 0) hM hw (by decide)
theorem m_tell0 {σ : zSt} {A : zAb} (hM : zMr σ A) {w : Nat} (hw : w < 20) (v : Int32) : zOk (F_Model_tellStory (nI w) (0 : Int32) v σ) (fun σ' => zMr σ' (aup A 2 w 0 v) ∧ zfM σ σ') := m_tell (k := 0) hM hw (by decide) v
theorem m_story1 {σ : zSt} {A : zAb} (hM : zMr σ A) {w : Nat} (hw : w < 20) : F_Model_story (nI w) (1 : Int32) σ = some (A 2 w 1) := m_story (k := 1) hM hw (by decide)
theorem m_tell1 {σ : zSt} {A : zAb} (hM : zMr σ A) {w : Nat} (hw : w < 20) (v : Int32) : zOk (F_Model_tellStory (nI w) (1 : Int32) v σ) (fun σ' => zMr σ' (aup A 2 w 1 v) ∧ zfM σ σ') := m_tell (k := 1) hM hw (by decide) v
theorem m_story2 {σ : zSt} {A : zAb} (hM : zMr σ A) {w : Nat} (hw : w < 20) : F_Model_story (nI w) (2 : Int32) σ = some (A 2 w 2) := m_story (k := 2) hM hw (by decide)
theorem m_tell2 {σ : zSt} {A : zAb} (hM : zMr σ A) {w : Nat} (hw : w < 20) (v : Int32) : zOk (F_Model_tellStory (nI w) (2 : Int32) v σ) (fun σ' => zMr σ' (aup A 2 w 2 v) ∧ zfM σ σ') := m_tell (k := 2) hM hw (by decide) v
theorem m_story3 {σ : zSt} {A : zAb} (hM : zMr σ A) {w : Nat} (hw : w < 20) : F_Model_story (nI w) (3 : Int32) σ = some (A 2 w 3) := m_story (k := 3) hM hw (by decide)
theorem m_tell3 {σ : zSt} {A : zAb} (hM : zMr σ A) {w : Nat} (hw : w < 20) (v : Int32) : zOk (F_Model_tellStory (nI w) (3 : Int32) v σ) (fun σ' => zMr σ' (aup A 2 w 3 v) ∧ zfM σ σ') := m_tell (k := 3) hM hw (by decide) v
theorem m_story4 {σ : zSt} {A : zAb} (hM : zMr σ A) {w : Nat} (hw : w < 20) : F_Model_story (nI w) (4 : Int32) σ = some (A 2 w 4) := m_story (k := 4) hM hw (by decide)
theorem m_tell4 {σ : zSt} {A : zAb} (hM : zMr σ A) {w : Nat} (hw : w < 20) (v : Int32) : zOk (F_Model_tellStory (nI w) (4 : Int32) v σ) (fun σ' => zMr σ' (aup A 2 w 4 v) ∧ zfM σ σ') := m_tell (k := 4) hM hw (by decide) v
theorem m_story5 {σ : zSt} {A : zAb} (hM : zMr σ A) {w : Nat} (hw : w < 20) : F_Model_story (nI w) (5 : Int32) σ = some (A 2 w 5) := m_story (k := 5) hM hw (by decide)
theorem m_tell5 {σ : zSt} {A : zAb} (hM : zMr σ A) {w : Nat} (hw : w < 20) (v : Int32) : zOk (F_Model_tellStory (nI w) (5 : Int32) v σ) (fun σ' => zMr σ' (aup A 2 w 5 v) ∧ zfM σ σ') := m_tell (k := 5) hM hw (by decide) v
/-! loops that gather a set -/
theorem z_maskS (T : Nat → Int32 → Int32 → Option Int32) {n : Nat} (hn : n < 32) (P : Nat → Bool) (h1 : ∀ k, k < n → P k = true → ∀ m a, T (m + 1) a (nI k) = T m (a + ((1 : Int32) <<< (nI k &&& 31))) (nI k + 1)) (h0 : ∀ k, k < n → P k = false → ∀ m a, T (m + 1) a (nI k) = T m (a + (0 : Int32)) (nI k + 1)) (he : ∀ m a, T (m + 1) a (nI n) = some a) : T zK 0 0 = some (zm P n) :=
  z_for (fun m k => T m (zm P k) (nI k)) n (zm P n) (fun k hk m => by
    show T (m + 1) (zm P k) (nI k) = T m (zm P (k + 1)) (nI (k + 1))
    by_cases h : P k = true
    · rw [h1 k hk h, zm_add (by omega), zm_s1 h, nI_1]
    · rw [h0 k hk (by simpa using h), zm_s0 (by simpa using h), nI_1, Int32.add_zero]) (fun m => he m _) zK (zK_lt (by omega))
theorem z_maskO (T : Nat → Int32 → Int32 → Option Int32) {n : Nat} (hn : n < 32) (P : Nat → Bool) (h1 : ∀ k, k < n → P k = true → ∀ m a, T (m + 1) a (nI k) = T m (a ||| ((1 : Int32) <<< (nI k &&& 31))) (nI k + 1)) (h0 : ∀ k, k < n → P k = false → ∀ m a, T (m + 1) a (nI k) = T m a (nI k + 1)) (he : ∀ m a, T (m + 1) a (nI n) = some a) : T zK 0 0 = some (zm P n) :=
  z_for (fun m k => T m (zm P k) (nI k)) n (zm P n) (fun k hk m => by
    show T (m + 1) (zm P k) (nI k) = T m (zm P (k + 1)) (nI (k + 1))
    by_cases h : P k = true
    · rw [h1 k hk h, zm_s1 h, nI_1]
    · rw [h0 k hk (by simpa using h), zm_s0 (by simpa using h), nI_1]) (fun m => he m _) zK (zK_lt (by omega))
/-! sums -/
def zs (f : Nat → Int32) : Nat → Int32
  | 0 => 0
  | n + 1 => zs f n + f n
theorem z_sum (T : Nat → Int32 → Int32 → Option Int32) {n : Nat} (hn : n < 90000) (f : Nat → Int32) (h1 : ∀ k, k < n → ∀ m a, T (m + 1) a (nI k) = T m (a + f k) (nI k + 1)) (he : ∀ m a, T (m + 1) a (nI n) = some a) : T zK 0 0 = some (zs f n) :=
  z_for (fun m k => T m (zs f k) (nI k)) n (zs f n) (fun k hk m => by
    show T (m + 1) (zs f k) (nI k) = T m (zs f (k + 1)) (nI (k + 1))
    rw [h1 k hk, nI_1]; rfl) (fun m => he m _) zK (zK_lt (by omega))
theorem zs_cong {f g : Nat → Int32} {n : Nat} (h : ∀ k, k < n → f k = g k) : zs f n = zs g n := by
  induction n with
  | zero => rfl
  | succ n ih => rw [zs, zs, ih (fun k hk => h k (by omega)), h n (by omega)]
theorem zs_ct (P : Nat → Bool) (n : Nat) : zs (fun k => bI (P k)) n = nI (fb_ct P n) := by
  induction n with
  | zero => rfl
  | succ n ih =>
    rw [zs, ih, fb_ct_succ, ← nI_add]
    cases P n <;> rfl
theorem nI_lt0 {n k : Nat} (hk : k < n) (hn : n < 2 ^ 31) : ¬ nI n ≤ nI k := nI_ge hk hn
theorem nI_le0 {n : Nat} (hn : n < 2 ^ 31) : nI n ≤ nI n := nI_le (Nat.le_refl n) hn
