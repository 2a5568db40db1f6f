/-! signs and tokens -/
def isB (c : Nat) : Bool := decide (c = 32) || decide (c = 10)
def isL (c : Nat) : Bool := decide (97 ≤ c) && decide (c ≤ 122)
def isG (c : Nat) : Bool := decide (48 ≤ c) && decide (c ≤ 57)
def tSk (b : Nat → Nat) : Nat → Nat → Nat
  | 0, p => p
  | d + 1, p => if isB (b p) = true then tSk b d (p + 1) else p
def tLe (b : Nat → Nat) : Nat → Nat → Nat
  | 0, p => p
  | d + 1, p => if isL (b p) = true then tLe b d (p + 1) else p
def tGe (b : Nat → Nat) : Nat → Nat → Nat
  | 0, p => p
  | d + 1, p => if isG (b p) = true then tGe b d (p + 1) else p
/-- the number that the reference reads on from v -/
def tV (b : Nat → Nat) : Nat → Nat → Nat → Nat
  | 0, _, v => v
  | d + 1, p, v => if isG (b p) = true then tV b d (p + 1) (if v ≤ 10000000 then 10 * v + (b p - 48) else v) else v
def tP (b : Nat → Nat) (s : Nat) : Nat → Nat
  | 0 => 0
  | k + 1 => 27 * tP b s k + (b (s + k) - 96)
def ts (b : Nat → Nat) (l p : Nat) : Nat := tSk b (l - p) p
def tk (b : Nat → Nat) (l p : Nat) : Nat := if l ≤ ts b l p then 0 else if isL (b (ts b l p)) = true then 1 else if isG (b (ts b l p)) = true then 2 else if b (ts b l p) = 59 then 3 else 4
def te (b : Nat → Nat) (l p : Nat) : Nat := if l ≤ ts b l p then ts b l p else if isL (b (ts b l p)) = true then tLe b (l - ts b l p) (ts b l p) else if isG (b (ts b l p)) = true then tGe b (l - ts b l p) (ts b l p) else ts b l p + 1
def tn (b : Nat → Nat) (l p : Nat) : Nat := tV b (l - ts b l p) (ts b l p) 0
theorem tSk_in {b : Nat → Nat} : ∀ {d p : Nat}, p ≤ tSk b d p ∧ tSk b d p ≤ p + d
  | 0, p => ⟨Nat.le_refl p, Nat.le_refl p⟩
  | d + 1, p => by
    rw [tSk]
    split
    · have := tSk_in (b := b) (d := d) (p := p + 1)
      omega
    · omega
theorem tLe_in {b : Nat → Nat} : ∀ {d p : Nat}, p ≤ tLe b d p ∧ tLe b d p ≤ p + d
  | 0, p => ⟨Nat.le_refl p, Nat.le_refl p⟩
  | d + 1, p => by
    rw [tLe]
    split
    · have := tLe_in (b := b) (d := d) (p := p + 1)
      omega
    · omega
theorem tGe_in {b : Nat → Nat} : ∀ {d p : Nat}, p ≤ tGe b d p ∧ tGe b d p ≤ p + d
  | 0, p => ⟨Nat.le_refl p, Nat.le_refl p⟩
  | d + 1, p => by
    rw [tGe]
    split
    · have := tGe_in (b := b) (d := d) (p := p + 1)
      omega
    · omega
theorem tLe_all {b : Nat → Nat} : ∀ {d p i : Nat}, p ≤ i → i < tLe b d p → isL (b i) = true
  | 0, p, i, h1, h2 => by
    have h2 : i < p := h2
    omega
  | d + 1, p, i, h1, h2 => by
    rw [tLe] at h2
    by_cases q : isL (b p) = true
    · rw [if_pos q] at h2
      by_cases z : i = p
      · subst z; exact q
      · exact tLe_all (d := d) (p := p + 1) (by omega) h2
    · rw [if_neg q] at h2; omega
theorem tV_lt {b : Nat → Nat} (hb : ∀ i, b i < 256) : ∀ {d p v : Nat}, v < 200000000 → tV b d p v < 200000000
  | 0, _, _, h => h
  | d + 1, p, v, h => by
    rw [tV]
    split
    · refine tV_lt hb ?_
      have := hb p
      split <;> rename_i q _ <;> (try unfold isG at q) <;> (try simp at q) <;> omega
    · exact h
theorem ts_in {b : Nat → Nat} {l p : Nat} (h : p ≤ l) : p ≤ ts b l p ∧ ts b l p ≤ l := by
  have := tSk_in (b := b) (d := l - p) (p := p)
  unfold ts
  omega
theorem te_in {b : Nat → Nat} {l p : Nat} (h : p ≤ l) : ts b l p ≤ te b l p ∧ te b l p ≤ l ∧ (tk b l p ≠ 0 → ts b l p < te b l p) := by
  have h1 := ts_in (b := b) h
  unfold te tk
  generalize ts b l p = s at *
  by_cases q : l ≤ s
  · rw [if_pos q, if_pos q]
    exact ⟨by omega, by omega, fun z => absurd rfl z⟩
  · rw [if_neg q]
    obtain ⟨d, hd⟩ : ∃ d, l - s = d + 1 := ⟨l - s - 1, by omega⟩
    by_cases q1 : isL (b s) = true
    · rw [if_pos q1]
      have := tLe_in (b := b) (d := d) (p := s + 1)
      rw [hd, tLe, if_pos q1]
      exact ⟨by omega, by omega, fun _ => by omega⟩
    · rw [if_neg q1]
      by_cases q2 : isG (b s) = true
      · rw [if_pos q2]
        have := tGe_in (b := b) (d := d) (p := s + 1)
        rw [hd, tGe, if_pos q2]
        exact ⟨by omega, by omega, fun _ => by omega⟩
      · rw [if_neg q2]
        exact ⟨by omega, by omega, fun _ => by omega⟩
/-! the class's reader of tokens -/
def zPx (σ : zSt) (b : Nat → Nat) (l : Nat) : Prop := l ≤ 700 ∧ (∀ i, b i < 256) ∧ σ.1 4 72 1 = nI l ∧ ∀ i, i < l → σ.1 4 74 i = nI (b i)
def xF (σ σ' : zSt) : Prop := (∀ g o i, ¬ (g = 4 ∧ o = 72 ∧ 2 ≤ i) → σ'.1 g o i = σ.1 g o i) ∧ σ'.2 = σ.2
theorem xF.rf (σ : zSt) : xF σ σ := ⟨fun _ _ _ _ => rfl, rfl⟩
theorem xF.tr {σ s2 s3 : zSt} (h : xF σ s2) (h2 : xF s2 s3) : xF σ s3 := ⟨fun g o i q => (h2.1 g o i q).trans (h.1 g o i q), h2.2.trans h.2⟩
theorem xF.st (σ : zSt) {i : Nat} (hi : 2 ≤ i) (x : Int32) : xF σ (zst σ 4 72 i x) := ⟨fun g o j q => by rw [zst_at, if_neg (by omega)], rfl⟩
theorem zPx.fr {σ σ' : zSt} {b : Nat → Nat} {l : Nat} (h : zPx σ b l) (f : xF σ σ') : zPx σ' b l := ⟨h.1, h.2.1, by rw [f.1 4 72 1 (by omega)]; exact h.2.2.1, fun i hi => by rw [f.1 4 74 i (by omega)]; exact h.2.2.2 i hi⟩
def xTk (σ : zSt) (b : Nat → Nat) (l p : Nat) : Prop := σ.1 4 72 3 = nI (ts b l p) ∧ σ.1 4 72 2 = nI (tk b l p) ∧ σ.1 4 72 4 = nI (te b l p) ∧ (tk b l p = 2 → σ.1 4 72 5 = nI (min (tn b l p) 10000000))
theorem x_let {c : Nat} (hc : c < 256) (σ : zSt) : F_Text_isLetter (nI c) σ = some (bI (isL c)) := by
  rw [F_Text_isLetter]
  unfold isL
  by_cases q : 97 ≤ c
  · rw [if_neg (show ¬ nI c < (97 : Int32) from nI_nlt (b := 97) q (by omega))]
    by_cases z : c ≤ 122
    · rw [if_neg (show ¬ (122 : Int32) < nI c from nI_nlt (a := 122) z (by omega))]; simp [q, z, bI]
    · rw [if_pos (show (122 : Int32) < nI c from nI_lt (a := 122) (by omega) (by omega))]; simp [z, bI]
  · rw [if_pos (show nI c < (97 : Int32) from nI_lt (b := 97) (by omega) (by decide))]; simp [q, bI]
theorem x_dig {c : Nat} (hc : c < 256) (σ : zSt) : F_Text_isDigit (nI c) σ = some (bI (isG c)) := by
  rw [F_Text_isDigit]
  unfold isG
  by_cases q : 48 ≤ c
  · rw [if_neg (show ¬ nI c < (48 : Int32) from nI_nlt (b := 48) q (by omega))]
    by_cases z : c ≤ 57
    · rw [if_neg (show ¬ (57 : Int32) < nI c from nI_nlt (a := 57) z (by omega))]; simp [q, z, bI]
    · rw [if_pos (show (57 : Int32) < nI c from nI_lt (a := 57) (by omega) (by omega))]; simp [z, bI]
  · rw [if_pos (show nI c < (48 : Int32) from nI_lt (b := 48) (by omega) (by decide))]; simp [q, bI]
theorem n_eq {c k : Nat} (hc : c < 2 ^ 31) (hk : k < 2 ^ 31) : nI c = nI k ↔ c = k := nI_eq hc hk
theorem x_blk {c : Nat} (hc : c < 256) (σ : zSt) : F_Text_isBlank (nI c) σ = some (bI (isB c)) := by
  rw [F_Text_isBlank]
  unfold isB
  have e1 : nI c = (32 : Int32) ↔ c = 32 := n_eq (k := 32) (by omega) (by decide)
  have e2 : nI c = (10 : Int32) ↔ c = 10 := n_eq (k := 10) (by omega) (by decide)
  by_cases q : c = 32
  · rw [if_pos (e1.mpr q)]; simp [q, bI]
  · rw [if_neg (fun z => q (e1.mp z))]
    by_cases z : c = 10
    · rw [if_pos (e2.mpr z)]; simp [z, bI]
    · rw [if_neg (fun y => z (e2.mp y))]; simp [q, z, bI]
theorem bI_ne {b : Bool} (h : b = true) : ¬ bI b = 0 := bI_t h
section LX
variable {σ : zSt} {b : Nat → Nat} {l : Nat}
theorem x_skip (hT : zPx σ b l) {Q : zSt → Prop} : ∀ d s j, s + d = l → σ.1 4 72 3 = nI s → d < j → (∀ j' s', s'.1 4 72 3 = nI (tSk b d s) → xF σ s' → zOk (L_Text_step (j' + 1) 1 s') Q) → zOk (L_Text_step (j + 1) 0 σ) Q := by
  intro d
  induction d generalizing σ with
  | zero =>
    intro s j hs e hj k
    obtain ⟨j, rfl⟩ : ∃ q, j = q + 1 := ⟨j - 1, by omega⟩
    have : s = l := by omega
    subst this
    rw [e_Text_step_0, hT.2.2.1, e, if_pos (nI_le0 (by have := hT.1; omega))]
    exact k j σ e (xF.rf σ)
  | succ d ih =>
    intro s j hs e hj k
    obtain ⟨j, rfl⟩ : ∃ q, j = q + 1 := ⟨j - 1, by omega⟩
    have l7 := hT.1
    rw [e_Text_step_0, hT.2.2.1, e, if_neg (nI_ge (show s < l by omega) (by omega)), r_get73 (by omega), Option.bind_some, hT.2.2.2 s (by omega), x_blk (hT.2.1 s), Option.bind_some, nI_1]
    rw [tSk] at k
    by_cases q : isB (b s) = true
    · rw [if_pos q] at k
      rw [if_neg (bI_ne q)]
      have f := xF.st σ (i := 3) (by decide) (nI (s + 1))
      exact ih (hT.fr f) (s + 1) j (by omega) (by rw [zst_at, if_pos ⟨rfl, rfl, rfl⟩]) (by omega) (fun j' s' g1 g2 => k j' s' g1 (f.tr g2))
    · rw [if_neg q] at k
      rw [if_pos (bI_f (by simpa using q))]
      exact k j σ e (xF.rf σ)
theorem x_skipL (hT : zPx σ b l) : ∀ d p j, p + d = l → σ.1 4 72 4 = nI p → d < j → zOk (L_Text_skipLetters j 0 σ) (fun s' => s'.1 4 72 4 = nI (tLe b d p) ∧ (∀ g o i, ¬ (g = 4 ∧ o = 72 ∧ i = 4) → s'.1 g o i = σ.1 g o i) ∧ s'.2 = σ.2) := by
  intro d
  induction d generalizing σ with
  | zero =>
    intro p j hs e hj
    obtain ⟨j, rfl⟩ : ∃ q, j = q + 1 := ⟨j - 1, by omega⟩
    have : p = l := by omega
    subst this
    rw [e_Text_skipLetters_0, hT.2.2.1, e, if_pos (nI_le0 (by have := hT.1; omega))]
    exact ⟨_, rfl, e, fun _ _ _ _ => rfl, rfl⟩
  | succ d ih =>
    intro p j hs e hj
    obtain ⟨j, rfl⟩ : ∃ q, j = q + 1 := ⟨j - 1, by omega⟩
    have l7 := hT.1
    rw [e_Text_skipLetters_0, hT.2.2.1, e, if_neg (nI_ge (show p < l by omega) (by omega)), r_get73 (by omega), Option.bind_some, hT.2.2.2 p (by omega), x_let (hT.2.1 p), Option.bind_some, nI_1, tLe]
    by_cases q : isL (b p) = true
    · rw [if_pos q, if_neg (bI_ne q)]
      refine (ih (hT.fr (xF.st σ (i := 4) (by decide) (nI (p + 1)))) (p + 1) j (by omega) (by rw [zst_at, if_pos ⟨rfl, rfl, rfl⟩]) (by omega)).mono (fun s' h => ⟨h.1, fun g o i z => by rw [h.2.1 g o i z, zst_at, if_neg (by omega)], h.2.2⟩)
    · rw [if_neg q, if_pos (bI_f (by simpa using q))]
      exact ⟨_, rfl, e, fun _ _ _ _ => rfl, rfl⟩
theorem x_digs (hT : zPx σ b l) : ∀ d p v j, p + d = l → σ.1 4 72 4 = nI p → v < 200000000 → σ.1 4 72 5 = nI (min v 10000000) → d < j → zOk (L_Text_readDigits j 0 σ) (fun s' => s'.1 4 72 4 = nI (tGe b d p) ∧ s'.1 4 72 5 = nI (min (tV b d p v) 10000000) ∧ (∀ g o i, ¬ (g = 4 ∧ o = 72 ∧ (i = 4 ∨ i = 5)) → s'.1 g o i = σ.1 g o i) ∧ s'.2 = σ.2) := by
  intro d
  induction d generalizing σ with
  | zero =>
    intro p v j hs e hv e5 hj
    obtain ⟨j, rfl⟩ : ∃ q, j = q + 1 := ⟨j - 1, by omega⟩
    have : p = l := by omega
    subst this
    rw [e_Text_readDigits_0, hT.2.2.1, e, if_pos (nI_le0 (by have := hT.1; omega))]
    exact ⟨_, rfl, e, e5, fun _ _ _ _ => rfl, rfl⟩
  | succ d ih =>
    intro p v j hs e hv e5 hj
    obtain ⟨j, rfl⟩ : ∃ q, j = q + 1 := ⟨j - 1, by omega⟩
    have l7 := hT.1
    rw [e_Text_readDigits_0, hT.2.2.1, e, if_neg (nI_ge (show p < l by omega) (by omega)), r_get73 (by omega), Option.bind_some, hT.2.2.2 p (by omega), x_dig (hT.2.1 p), Option.bind_some, tGe, tV]
    by_cases q : isG (b p) = true
    · rw [if_pos q, if_pos q, if_neg (bI_ne q), Option.bind_some, e5]
      have q2 := q
      unfold isG at q2
      simp only [Bool.and_eq_true, decide_eq_true_eq] at q2
      generalize hw : (if v ≤ 10000000 then 10 * v + (b p - 48) else v) = w
      have hw2 : w < 200000000 := by
        rw [← hw]; split <;> omega
      have e6 : (if (10000000 : Int32) < nI (min v 10000000) * (10 : Int32) + nI (b p) - (48 : Int32) then (10000000 : Int32) else nI (min v 10000000) * (10 : Int32) + nI (b p) - (48 : Int32)) = nI (min w 10000000) := by
        have e7 : nI (min v 10000000) * (10 : Int32) + nI (b p) - (48 : Int32) = nI (min v 10000000 * 10 + b p - 48) := by
          rw [show (10 : Int32) = nI 10 from rfl, pk_mul, nI_add, show (48 : Int32) = nI 48 from rfl, pk_sub (by omega)]
        rw [e7]
        by_cases y : 10000000 < min v 10000000 * 10 + b p - 48
        · rw [if_pos (show (10000000 : Int32) < nI _ from nI_lt (a := 10000000) y (by omega))]
          show nI 10000000 = _
          congr 1
          rw [← hw]; split <;> omega
        · rw [if_neg (show ¬ (10000000 : Int32) < nI _ from nI_nlt (a := 10000000) (by omega) (by omega))]
          congr 1
          rw [← hw]; split <;> omega
      rw [e6]
      generalize hs2 : zst σ 4 72 5 (nI (min w 10000000)) = s2
      have e4 : s2.1 4 72 4 = nI p := by rw [← hs2, zst_at, if_neg (by omega)]; exact e
      have f2 : xF σ s2 := by rw [← hs2]; exact xF.st σ (by decide) _
      rw [e4, nI_1]
      refine (ih ((hT.fr f2).fr (xF.st s2 (i := 4) (by decide) (nI (p + 1)))) (p + 1) w j (by omega) (by rw [zst_at, if_pos ⟨rfl, rfl, rfl⟩]) hw2 (by rw [zst_at, if_neg (by omega), ← hs2, zst_at, if_pos ⟨rfl, rfl, rfl⟩]) (by omega)).mono (fun s' h => ⟨h.1, h.2.1, fun g o i z => by rw [h.2.2.1 g o i z, zst_at, if_neg (by omega), ← hs2, zst_at, if_neg (by omega)], h.2.2.2.trans (by rw [zst_2, f2.2])⟩)
    · rw [if_neg q, if_neg q, if_pos (bI_f (by simpa using q))]
      exact ⟨_, rfl, e, e5, fun _ _ _ _ => rfl, rfl⟩
theorem x_step (hT : zPx σ b l) {p : Nat} (hp : p ≤ l) (e : σ.1 4 72 4 = nI p) : zOk (F_Text_step σ) (fun s' => xTk s' b l p ∧ xF σ s') := by
  have l7 := hT.1
  rw [F_Text_step, e]
  have f0 := xF.st σ (i := 3) (by decide) (nI p)
  refine x_skip (hT.fr f0) (l - p) p 99999 (by omega) (by rw [zst_at, if_pos ⟨rfl, rfl, rfl⟩]) (by omega) (fun j s1 g1 g2 => ?_)
  have g1 : s1.1 4 72 3 = nI (ts b l p) := g1
  obtain ⟨hs1, hs2⟩ := ts_in (b := b) hp
  have f1 := f0.tr g2
  have hT1 := hT.fr f1
  rw [e_Text_step_1, g1]
  unfold xTk tk te tn
  generalize ts b l p = s at *
  generalize hs2' : zst s1 4 72 4 (nI s) = s2
  have f2 : xF s1 s2 := by rw [← hs2']; exact xF.st s1 (by decide) _
  have hT2 := hT1.fr f2
  have e3 : s2.1 4 72 3 = nI s := by rw [← hs2', zst_at, if_neg (by omega)]; exact g1
  have e4 : s2.1 4 72 4 = nI s := by rw [← hs2', zst_at, if_pos ⟨rfl, rfl, rfl⟩]
  rw [e3, hT2.2.2.1]
  by_cases q : l ≤ s
  · rw [if_neg (nI_nlt q (by omega)), if_pos q, if_pos q]
    refine ⟨_, rfl, ⟨?_, ?_, ?_, fun z => absurd z (by decide)⟩, (f1.tr f2).tr (xF.st s2 (i := 2) (by decide) 0)⟩
    · rw [zst_at, if_neg (by omega)]; exact e3
    · rw [zst_at, if_pos ⟨rfl, rfl, rfl⟩]; rfl
    · rw [zst_at, if_neg (by omega)]; exact e4
  · have hsl : s < l := by omega
    rw [if_pos (nI_lt hsl (by omega)), r_get73 (by omega), Option.bind_some, hT2.2.2.2 s hsl, x_let (hT2.2.1 s), Option.bind_some, if_neg q, if_neg q]
    by_cases q1 : isL (b s) = true
    · rw [if_neg (bI_ne q1), if_pos q1, if_pos q1]
      have f3 := xF.st s2 (i := 2) (by decide) 1
      refine zOk.bind (x_skipL (hT2.fr f3) (l - s) s zK (by omega) (by rw [zst_at, if_neg (by omega)]; exact e4) (zK_lt (by omega))) (fun s' ⟨k1, k2, k3⟩ => ⟨_, rfl, ⟨?_, ?_, k1, fun z => absurd z (by decide)⟩, ((f1.tr f2).tr f3).tr ⟨fun g o i z => k2 g o i (by omega), k3⟩⟩)
      · rw [k2 4 72 3 (by omega), zst_at, if_neg (by omega)]; exact e3
      · rw [k2 4 72 2 (by omega), zst_at, if_pos ⟨rfl, rfl, rfl⟩]; rfl
    · rw [if_pos (bI_f (by simpa using q1)), if_neg q1, if_neg q1, Option.bind_some, x_dig (hT2.2.1 s), Option.bind_some]
      by_cases q2 : isG (b s) = true
      · rw [if_neg (bI_ne q2), if_pos q2, if_pos q2, F_Text_readDigits]
        have f3 := xF.st s2 (i := 2) (by decide) 2
        have f4 := xF.st (zst s2 4 72 2 2) (i := 5) (by decide) 0
        refine zOk.bind (x_digs ((hT2.fr f3).fr f4) (l - s) s 0 zK (by omega) (by rw [zst_at, if_neg (by omega), zst_at, if_neg (by omega)]; exact e4) (by decide) (by rw [zst_at, if_pos ⟨rfl, rfl, rfl⟩]; rfl) (zK_lt (by omega))) (fun s' ⟨k1, k2, k3, k4⟩ => ⟨_, rfl, ⟨?_, ?_, k1, fun _ => k2⟩, (((f1.tr f2).tr f3).tr f4).tr ⟨fun g o i z => k3 g o i (by omega), k4⟩⟩)
        · rw [k3 4 72 3 (by omega), zst_at, if_neg (by omega), zst_at, if_neg (by omega)]; exact e3
        · rw [k3 4 72 2 (by omega), zst_at, if_neg (by omega), zst_at, if_pos ⟨rfl, rfl, rfl⟩]; rfl
      · rw [if_pos (bI_f (by simpa using q2)), if_neg q2, if_neg q2, Option.bind_some]
        have fin : ∀ x : Int32, ∀ k : Nat, x = nI k → k ≠ 2 → zOk (some (zst (zst s2 4 72 2 x) 4 72 4 ((zst s2 4 72 2 x).1 4 72 4 + 1))) (fun s' => (s'.1 4 72 3 = nI s ∧ s'.1 4 72 2 = nI k ∧ s'.1 4 72 4 = nI (s + 1) ∧ (k = 2 → s'.1 4 72 5 = nI (min (tV b (l - s) s 0) 10000000))) ∧ xF σ s') := fun x k hx hk => by
          refine ⟨_, rfl, ⟨?_, ?_, ?_, fun z => absurd z hk⟩, ((f1.tr f2).tr (xF.st s2 (i := 2) (by decide) x)).tr (xF.st _ (i := 4) (by decide) _)⟩
          · rw [zst_at, if_neg (by omega), zst_at, if_neg (by omega)]; exact e3
          · rw [zst_at, if_neg (by omega), zst_at, if_pos ⟨rfl, rfl, rfl⟩]; exact hx
          · rw [zst_at, if_pos ⟨rfl, rfl, rfl⟩, zst_at, if_neg (by omega), e4, nI_1]
        have e59 : nI (b s) = (59 : Int32) ↔ b s = 59 := n_eq (k := 59) (by have := hT2.2.1 s; omega) (by decide)
        by_cases q3 : b s = 59
        · rw [if_pos (e59.mpr q3), if_pos q3]
          exact fin 3 3 rfl (by decide)
        · rw [if_neg (fun z => q3 (e59.mp z)), if_neg q3]
          exact fin 4 4 rfl (by decide)
end LX
