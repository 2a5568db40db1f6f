/-! what the reference's inner methods do to the abstract state -/
theorem z_loopC {γ α : Type} (T : Nat → Nat → α → Option γ) (N c : Nat) (I : Nat → α → Prop) (Q : γ → Prop) (hs : ∀ k s, k < N → I k s → ∀ m, (∀ s', I (k + 1) s' → zOk (T m (k + 1) s') Q) → zOk (T (m + 1) k s) Q) (he : ∀ s, I N s → ∀ m, c ≤ m → zOk (T (m + 1) N s) Q) : ∀ m s, N + c < m → I 0 s → zOk (T m 0 s) Q := by
  have key : ∀ d k m s, k + d = N → d + c < m → I k s → zOk (T m k s) Q := by
    intro d
    induction d with
    | zero =>
      intro k m s h hm hi
      obtain ⟨m', rfl⟩ : ∃ m', m = m' + 1 := ⟨m - 1, by omega⟩
      have : k = N := by omega
      subst this
      exact he s hi m' (by omega)
    | succ d ih =>
      intro k m s h hm hi
      obtain ⟨m', rfl⟩ : ∃ m', m = m' + 1 := ⟨m - 1, by omega⟩
      exact hs k s (by omega) hi m' (fun s' hi' => ih (k + 1) m' s' (by omega) (by omega) hi')
  intro m s hm hi
  exact key N 0 m s (by omega) hm hi
def aClr (A : zAb) (h w : Nat) : zAb := fun f i j => if 3 ≤ f ∧ f ≤ 11 ∧ i = h ∧ j = w then (if f = 5 then -1 else 0) else A f i j
def aHv (x y r b s : Int32) (j : Nat) : Int32 := if j = 0 then x else if j = 1 then y else if j = 2 then r else if j = 3 then b else if j = 4 then s else if j = 5 then -1 else if j = 6 then -1 else 0
def aHouse (A : zAb) (n : Nat) (x y r b s : Int32) : zAb := fun f i j => if f = 1 ∧ i = n ∧ j < 10 then aHv x y r b s j else if 3 ≤ f ∧ f ≤ 11 ∧ i = n ∧ j < 20 then (if f = 5 then -1 else 0) else if f = 0 ∧ i = 6 ∧ j = 0 then nI (n + 1) else A f i j
def aEnter (A : zAb) (h w : Nat) (hops : Int32) : zAb := aup (aup (aup A 7 h w 1) 8 h w (A 0 8 0)) 9 h w hops
def aTell (A : zAb) (m h : Nat) (body : Int32) : zAb := fun f i j =>
  if 3 ≤ f ∧ f ≤ 11 ∧ i < 12 ∧ j = m then (if i = h ∧ f = 3 then 1 else if i = h ∧ f = 7 then 1 else if i = h ∧ f = 8 then A 0 8 0 else if f = 5 then -1 else 0)
  else if f = 2 ∧ i = m ∧ j < 6 then (if j = 0 then nI h else if j = 1 then A 0 8 0 else if j = 2 then body else -1) else if f = 0 ∧ i = 7 ∧ j = 0 then nI (m + 1) else A f i j
def aLearn (A : zAb) (n h w : Nat) : zAb :=
  if aOws (aup (aup A 4 h w 1) 7 h w 0) n h w = 0 then aup (aup A 4 h w 1) 7 h w 0 else aup (aup (aup (aup A 4 h w 1) 7 h w 0) 10 h w 1) 11 h w (A 0 8 0)
def aBat (A : zAb) (h : Nat) : Int32 := if A 1 h 3 + A 0 2 0 < 999 then A 1 h 3 + A 0 2 0 else 999
def aDay (A : zAb) (k : Nat) : zAb := fun f i j => if f = 1 ∧ i < k ∧ j = 3 then aBat A i else if f = 1 ∧ i < k ∧ j = 7 then 0 else A f i j
def aBegin (A : zAb) (n : Nat) : zAb := if 0 < A 0 8 0 ∧ aT A = 0 then aDay A n else A
section MM
variable {σ : zSt} {A : zAb} {n m : Nat}
end MM

