/-! the reference's reader of tokens; words -/
def zPm (σ : zSt) (b : Nat → Nat) (l : Nat) : Prop := l ≤ 700 ∧ (∀ i, b i < 256) ∧ σ.1 4 80 10 = nI l ∧ ∀ i, i < l → σ.1 4 89 i = nI (b i)
def mF (σ σ' : zSt) : Prop := ∀ g o i, ¬ (g = 4 ∧ o = 80 ∧ 11 ≤ i ∧ i ≤ 15) → σ'.1 g o i = σ.1 g o i
theorem mF.rf (σ : zSt) : mF σ σ := fun _ _ _ _ => rfl
theorem mF.tr {σ s2 s3 : zSt} (h : mF σ s2) (h2 : mF s2 s3) : mF σ s3 := fun g o i q => (h2 g o i q).trans (h g o i q)
theorem mF.st (σ : zSt) {i : Nat} (h1 : 11 ≤ i) (h2 : i ≤ 15) (x : Int32) : mF σ (zst σ 4 80 i x) := fun g o j q => by rw [zst_at, if_neg (by omega)]
theorem mF.sl (σ : zSt) (x : Int64) : mF σ (zsl σ 80 x) := fun _ _ _ _ => rfl
theorem zPm.fr {σ σ' : zSt} {b : Nat → Nat} {l : Nat} (h : zPm σ b l) (f : mF σ σ') : zPm σ' b l := ⟨h.1, h.2.1, by rw [f 4 80 10 (by omega)]; exact h.2.2.1, fun i hi => by rw [f 4 89 i (by omega)]; exact h.2.2.2 i hi⟩
def mKd (k : Nat) : Nat := if k = 0 then 0 else if k = 1 then 2 else if k = 2 then 3 else if k = 3 then 4 else 1
def mTk (σ : zSt) (b : Nat → Nat) (l p : Nat) : Prop := σ.1 4 80 12 = nI (ts b l p) ∧ σ.1 4 80 11 = nI (te b l p) ∧ σ.1 4 80 13 = nI (mKd (tk b l p)) ∧ (tk b l p = 1 → σ.1 4 80 14 = nI (te b l p - ts b l p) ∧ σ.2.1 80 = lN (tP b (ts b l p) (min (te b l p - ts b l p) 11))) ∧ (tk b l p = 2 → σ.1 4 80 15 = nI (tn b l p))
def mB (b : Nat → Nat) (l p : Nat) : Int32 := if l ≤ p then -1 else nI (b p)
theorem tSk_stop {b : Nat → Nat} {l : Nat} : ∀ {d p : Nat}, p + d = l → tSk b d p = l ∨ isB (b (tSk b d p)) = false
  | 0, p, h => Or.inl h
  | d + 1, p, h => by
    rw [tSk]
    by_cases q : isB (b p) = true
    · rw [if_pos q]; exact tSk_stop (by omega)
    · rw [if_neg q]; exact Or.inr (by simpa using q)
theorem lit_m1 {c : Nat} (hc : c < 2 ^ 31) : ¬ nI c = (-1 : Int32) := oI_ne hc
section LM
variable {σ : zSt} {b : Nat → Nat} {l : Nat}
theorem m_byte (hT : zPm σ b l) {p : Nat} (hp : p ≤ l) : F_Model_byteAt (nI p) σ = some (mB b l p) := by
  have l7 := hT.1
  rw [F_Model_byteAt, hT.2.2.1]
  unfold mB
  by_cases q : l ≤ p
  · rw [if_pos (nI_le q (by omega)), if_pos q]
  · rw [if_neg (nI_ge (by omega) (by omega)), if_neg q, if_pos (inb_n (by omega) (by decide)), nI_clamp (by omega), hT.2.2.2 p (by omega)]
theorem m_let {c : Nat} (hc : c < 256) (σ : zSt) : F_Model_isLetter (nI c) σ = some (bI (isL c)) := by
  rw [F_Model_isLetter]
  unfold isL
  by_cases q : 97 ≤ c ∧ c ≤ 122
  · rw [show F_Model_isBetween (nI c) 97 122 σ = some 1 from m_in1 (zBt_n (lo := 97) (hi := 122) q.1 q.2 (by decide)) σ, Option.bind_some, if_pos (Or.inr rfl)]
    simp [q.1, q.2, bI]
  · have : zBt (nI c) (nI 97) (nI 122) = false := by
      cases y : zBt (nI c) (nI 97) (nI 122) with
      | false => rfl
      | true =>
        obtain ⟨k, k1, k2, k3⟩ := z_rng y (by decide) (by decide)
        have := (nI_eq (by omega) (by omega)).mp k3
        omega
    rw [show F_Model_isBetween (nI c) 97 122 σ = some 0 from m_in0 this σ, Option.bind_some, if_pos (Or.inl rfl)]
    have : (decide (97 ≤ c) && decide (c ≤ 122)) = false := by
      cases y : (decide (97 ≤ c) && decide (c ≤ 122)) with
      | false => rfl
      | true => simp at y; exact absurd y q
    rw [this]; rfl
theorem m_dig {c : Nat} (hc : c < 256) (σ : zSt) : F_Model_isDigit (nI c) σ = some (bI (isG c)) := by
  rw [F_Model_isDigit]
  unfold isG
  by_cases q : 48 ≤ c ∧ c ≤ 57
  · rw [show F_Model_isBetween (nI c) 48 57 σ = some 1 from m_in1 (zBt_n (lo := 48) (hi := 57) q.1 q.2 (by decide)) σ, Option.bind_some, if_pos (Or.inr rfl)]
    simp [q.1, q.2, bI]
  · have : zBt (nI c) (nI 48) (nI 57) = false := by
      cases y : zBt (nI c) (nI 48) (nI 57) with
      | false => rfl
      | true =>
        obtain ⟨k, k1, k2, k3⟩ := z_rng y (by decide) (by decide)
        have := (nI_eq (by omega) (by omega)).mp k3
        omega
    rw [show F_Model_isBetween (nI c) 48 57 σ = some 0 from m_in0 this σ, Option.bind_some, if_pos (Or.inl rfl)]
    have : (decide (48 ≤ c) && decide (c ≤ 57)) = false := by
      cases y : (decide (48 ≤ c) && decide (c ≤ 57)) with
      | false => rfl
      | true => simp at y; exact absurd y q
    rw [this]; rfl
theorem m_letm (σ : zSt) : F_Model_isLetter (-1) σ = some 0 := rfl
theorem m_digm (σ : zSt) : F_Model_isDigit (-1) σ = some 0 := rfl
theorem m_skip (hT : zPm σ b l) {Q : zSt → Prop} : ∀ d p j, p + d = l → σ.1 4 80 11 = nI p → 2000 + d ≤ j → (∀ j' s', 2000 ≤ j' → s'.1 4 80 11 = nI (tSk b d p) → mF σ s' → zOk (L_Model_nextToken (j' + 1) 0 0 s') Q) → zOk (L_Model_nextToken (j + 1) 0 0 σ) Q := by
  intro d
  induction d generalizing σ with
  | zero =>
    intro p j hs e hj k
    exact k j σ (by omega) e (mF.rf σ)
  | succ d ih =>
    intro p j hs e hj k
    have l7 := hT.1
    rw [tSk] at k
    by_cases q : isB (b p) = true
    · rw [if_pos q] at k
      obtain ⟨j, rfl⟩ : ∃ q, j = q + 1 := ⟨j - 1, by omega⟩
      have e32 : nI (b p) = (32 : Int32) ↔ b p = 32 := n_eq (k := 32) (by have := hT.2.1 p; omega) (by decide)
      have e10 : nI (b p) = (10 : Int32) ↔ b p = 10 := n_eq (k := 10) (by have := hT.2.1 p; omega) (by decide)
      have f := mF.st σ (i := 11) (by decide) (by decide) (nI (p + 1))
      have go := ih (hT.fr f) (p + 1) j (by omega) (by rw [zst_at, if_pos ⟨rfl, rfl, rfl⟩]) (by omega) (fun j' s' a g1 g2 => k j' s' a g1 (f.tr g2))
      have mBe : mB b l p = nI (b p) := by
        unfold mB
        rw [if_neg (by omega)]
      rw [e_Model_nextToken_0, e, m_byte hT (by omega), Option.bind_some, mBe, nI_1]
      by_cases z : b p = 32
      · rw [if_pos (e32.mpr z)]; exact go
      · have z2 : b p = 10 := by
          unfold isB at q
          simpa [z] using q
        rw [if_neg (fun y => z (e32.mp y)), Option.bind_some, if_pos (e10.mpr z2)]; exact go
    · rw [if_neg q] at k
      exact k j σ (by omega) e (mF.rf σ)
theorem m_letters {s : Nat} (hT : zPm σ b l) : ∀ d k j, s + k + d = l → σ.1 4 80 11 = nI (s + k) → σ.1 4 80 14 = nI k → σ.2.1 80 = lN (tP b s (min k 11)) → 2 * d + 1 < j → zOk (L_Model_nextToken j 1 0 σ) (fun s' => s'.1 4 80 11 = nI (tLe b d (s + k)) ∧ s'.1 4 80 14 = nI (tLe b d (s + k) - s) ∧ s'.2.1 80 = lN (tP b s (min (tLe b d (s + k) - s) 11)) ∧ (∀ g o i, ¬ (g = 4 ∧ o = 80 ∧ (i = 11 ∨ i = 14)) → s'.1 g o i = σ.1 g o i)) := by
  intro d
  induction d generalizing σ with
  | zero =>
    intro k j hs e e14 ew hj
    obtain ⟨j, rfl⟩ : ∃ q, j = q + 1 := ⟨j - 1, by omega⟩
    rw [e_Model_nextToken_1, e, m_byte hT (by omega), Option.bind_some]
    unfold mB
    rw [if_pos (by omega), m_letm, Option.bind_some, if_pos rfl]
    refine ⟨_, rfl, e, ?_, ?_, fun _ _ _ _ => rfl⟩
    · rw [e14, tLe, Nat.add_sub_cancel_left]
    · rw [ew, tLe, Nat.add_sub_cancel_left]
  | succ d ih =>
    intro k j hs e e14 ew hj
    obtain ⟨j, rfl⟩ : ∃ q, j = q + 2 := ⟨j - 2, by omega⟩
    have l7 := hT.1
    have hb := hT.2.1 (s + k)
    rw [e_Model_nextToken_1, e, m_byte hT (by omega), Option.bind_some]
    unfold mB
    rw [if_neg (by omega), m_let hb, Option.bind_some, tLe]
    by_cases q : isL (b (s + k)) = true
    · rw [if_pos q, if_neg (bI_ne q), e14]
      have q2 := q
      unfold isL at q2
      simp only [Bool.and_eq_true, decide_eq_true_eq] at q2
      have go : ∀ y, y = lN (tP b s (min (k + 1) 11)) → zOk (L_Model_nextToken (j + 1) 2 y σ) (fun s' => s'.1 4 80 11 = nI (tLe b d (s + k + 1)) ∧ s'.1 4 80 14 = nI (tLe b d (s + k + 1) - s) ∧ s'.2.1 80 = lN (tP b s (min (tLe b d (s + k + 1) - s) 11)) ∧ (∀ g o i, ¬ (g = 4 ∧ o = 80 ∧ (i = 11 ∨ i = 14)) → s'.1 g o i = σ.1 g o i)) := fun y hy => by
        rw [e_Model_nextToken_2]
        generalize hs2 : zst (zsl σ 80 y) 4 80 14 ((zsl σ 80 y).1 4 80 14 + 1) = s2
        have f2 : mF σ s2 := by rw [← hs2]; exact (mF.sl σ y).tr (mF.st _ (by decide) (by decide) _)
        have e11 : s2.1 4 80 11 = nI (s + k) := by rw [← hs2, zst_at, if_neg (by omega)]; exact e
        have e142 : s2.1 4 80 14 = nI (k + 1) := by
          rw [← hs2, zst_at, if_pos ⟨rfl, rfl, rfl⟩]
          show σ.1 4 80 14 + 1 = _
          rw [e14, nI_1]
        have ew2 : s2.2.1 80 = lN (tP b s (min (k + 1) 11)) := by
          rw [← hs2, ← hy]
          show (if (80 : Nat) = 80 then y else σ.2.1 80) = y
          exact if_pos rfl
        rw [e11, nI_1]
        refine (ih (σ := zst s2 4 80 11 (nI (s + k + 1))) ((hT.fr f2).fr (mF.st s2 (by decide) (by decide) _)) (k + 1) j (by omega) (by rw [zst_at, if_pos ⟨rfl, rfl, rfl⟩]; rfl) (by rw [zst_at, if_neg (by omega)]; exact e142) ew2 (by omega)).mono (fun s' h => ⟨h.1, h.2.1, h.2.2.1, fun g o i z => ?_⟩)
        rw [h.2.2.2 g o i z, zst_at, if_neg (by omega), ← hs2, zst_at, if_neg (by omega)]
        rfl
      by_cases z : 11 ≤ k
      · rw [if_pos (show (11 : Int32) ≤ nI k from nI_le (a := 11) z (by omega))]
        refine go _ ?_
        rw [ew, show min (k + 1) 11 = min k 11 by omega]
      · rw [if_neg (show ¬ (11 : Int32) ≤ nI k from nI_ge (b := 11) (by omega) (by decide)), Option.bind_some]
        refine go _ ?_
        rw [ew, show min k 11 = k by omega, show min (k + 1) 11 = k + 1 by omega, nI_l (by omega), show (27 : Int64) = lN 27 from rfl, show (96 : Int64) = lN 96 from rfl, lN_mul, lN_add, lN_sub (by omega), tP]
        congr 1
        omega
    · rw [if_neg q, if_pos (bI_f (by simpa using q))]
      refine ⟨_, rfl, e, ?_, ?_, fun _ _ _ _ => rfl⟩
      · rw [e14, Nat.add_sub_cancel_left]
      · rw [ew, Nat.add_sub_cancel_left]
theorem m_digs (hT : zPm σ b l) : ∀ d p v j, p + d = l → σ.1 4 80 11 = nI p → v < 200000000 → σ.1 4 80 15 = nI v → d < j → zOk (L_Model_nextToken j 3 0 σ) (fun s' => s'.1 4 80 11 = nI (tGe b d p) ∧ s'.1 4 80 15 = nI (tV b d p v) ∧ (∀ g o i, ¬ (g = 4 ∧ o = 80 ∧ (i = 11 ∨ i = 15)) → s'.1 g o i = σ.1 g o i)) := by
  intro d
  induction d generalizing σ with
  | zero =>
    intro p v j hs e hv e15 hj
    obtain ⟨j, rfl⟩ : ∃ q, j = q + 1 := ⟨j - 1, by omega⟩
    rw [e_Model_nextToken_3, e, m_byte hT (by omega), Option.bind_some]
    unfold mB
    rw [if_pos (by omega), m_digm, Option.bind_some, if_pos rfl]
    exact ⟨_, rfl, e, e15, fun _ _ _ _ => rfl⟩
  | succ d ih =>
    intro p v j hs e hv e15 hj
    obtain ⟨j, rfl⟩ : ∃ q, j = q + 1 := ⟨j - 1, by omega⟩
    have l7 := hT.1
    have hb := hT.2.1 p
    rw [e_Model_nextToken_3, e, m_byte hT (by omega), Option.bind_some]
    unfold mB
    rw [if_neg (by omega), m_dig hb, Option.bind_some, tGe, tV]
    by_cases q : isG (b p) = true
    · rw [if_pos q, if_pos q, if_neg (bI_ne q), e15]
      have q2 := q
      unfold isG at q2
      simp only [Bool.and_eq_true, decide_eq_true_eq] at q2
      have go : ∀ w, w < 200000000 → zOk (L_Model_nextToken j 3 0 (zst (zst σ 4 80 15 (nI w)) 4 80 11 ((zst σ 4 80 15 (nI w)).1 4 80 11 + 1))) (fun s' => s'.1 4 80 11 = nI (tGe b d (p + 1)) ∧ s'.1 4 80 15 = nI (tV b d (p + 1) w) ∧ (∀ g o i, ¬ (g = 4 ∧ o = 80 ∧ (i = 11 ∨ i = 15)) → s'.1 g o i = σ.1 g o i)) := fun w hw => by
        have e11 : (zst σ 4 80 15 (nI w)).1 4 80 11 = nI p := by rw [zst_at, if_neg (by omega)]; exact e
        rw [e11, nI_1]
        refine (ih ((hT.fr (mF.st σ (i := 15) (by decide) (by decide) (nI w))).fr (mF.st _ (i := 11) (by decide) (by decide) _)) (p + 1) w j (by omega) (by rw [zst_at, if_pos ⟨rfl, rfl, rfl⟩]) hw (by rw [zst_at, if_neg (by omega), zst_at, if_pos ⟨rfl, rfl, rfl⟩]) (by omega)).mono (fun s' h => ⟨h.1, h.2.1, fun g o i z => ?_⟩)
        rw [h.2.2 g o i z, zst_at, if_neg (by omega), zst_at, if_neg (by omega)]
      by_cases z : v ≤ 10000000
      · rw [if_pos (show nI v ≤ (10000000 : Int32) from nI_le (b := 10000000) z (by decide)), Option.bind_some, if_pos z]
        have e7 : (10 : Int32) * nI v + nI (b p) - (48 : Int32) = nI (10 * v + (b p - 48)) := by
          rw [show (10 : Int32) = nI 10 from rfl, pk_mul, nI_add, show (48 : Int32) = nI 48 from rfl, pk_sub (by omega)]
          congr 1
          omega
        rw [e7]
        exact go _ (by omega)
      · rw [if_neg (show ¬ nI v ≤ (10000000 : Int32) from nI_ge (a := 10000000) (by omega) (by omega)), if_neg z]
        exact go v hv
    · rw [if_neg q, if_neg q, if_pos (bI_f (by simpa using q))]
      exact ⟨_, rfl, e, e15, fun _ _ _ _ => rfl⟩
theorem m_next (hT : zPm σ b l) {p : Nat} (hp : p ≤ l) (e : σ.1 4 80 11 = nI p) : zOk (F_Model_nextToken σ) (fun s' => mTk s' b l p ∧ mF σ s') := by
  have l7 := hT.1
  rw [F_Model_nextToken]
  refine m_skip hT (l - p) p 99999 (by omega) e (by omega) (fun j s1 hj g1 f1 => ?_)
  have stop := tSk_stop (b := b) (l := l) (d := l - p) (p := p) (by omega)
  have g1 : s1.1 4 80 11 = nI (ts b l p) := g1
  have stop : ts b l p = l ∨ isB (b (ts b l p)) = false := stop
  obtain ⟨hs1, hs2⟩ := ts_in (b := b) hp
  have hT1 := hT.fr f1
  unfold mTk tk te tn
  generalize ts b l p = s at *
  rw [e_Model_nextToken_0, g1, m_byte hT1 hs2, Option.bind_some]
  have nb : ∀ k : Nat, k < 256 → (k = 32 ∨ k = 10) → ¬ mB b l s = nI k := fun k hk hk2 y => by
    unfold mB at y
    by_cases z : l ≤ s
    · rw [if_pos z] at y
      exact lit_m1 (c := k) (by omega) y.symm
    · rw [if_neg z] at y
      have y := (nI_eq (by have := hT1.2.1 s; omega) (by omega)).mp y
      rcases stop with h | h
      · omega
      · unfold isB at h
        rcases hk2 with rfl | rfl <;> simp [y] at h
  rw [if_neg (show ¬ mB b l s = (32 : Int32) from nb 32 (by decide) (by decide)), Option.bind_some, if_neg (show ¬ mB b l s = (10 : Int32) from nb 10 (by decide) (by decide))]
  generalize hτ : zst (zsl (zst (zst s1 4 80 12 (nI s)) 4 80 14 (0 : Int32)) 80 (0 : Int64)) 4 80 15 (0 : Int32) = τ
  have fτ : mF s1 τ := by
    rw [← hτ]
    exact (((mF.st s1 (by decide) (by decide) _).tr (mF.st _ (by decide) (by decide) _)).tr (mF.sl _ _)).tr (mF.st _ (by decide) (by decide) _)
  have hTτ := hT1.fr fτ
  have e11 : τ.1 4 80 11 = nI s := by
    rw [← hτ, zst_at, if_neg (by omega)]
    show (zst (zst s1 4 80 12 (nI s)) 4 80 14 (0 : Int32)).1 4 80 11 = _
    rw [zst_at, if_neg (by omega), zst_at, if_neg (by omega)]; exact g1
  have e12 : τ.1 4 80 12 = nI s := by
    rw [← hτ, zst_at, if_neg (by omega)]
    show (zst (zst s1 4 80 12 (nI s)) 4 80 14 (0 : Int32)).1 4 80 12 = _
    rw [zst_at, if_neg (by omega), zst_at, if_pos ⟨rfl, rfl, rfl⟩]
  have e14 : τ.1 4 80 14 = nI 0 := by
    rw [← hτ, zst_at, if_neg (by omega)]
    show (zst (zst s1 4 80 12 (nI s)) 4 80 14 (0 : Int32)).1 4 80 14 = _
    rw [zst_at, if_pos ⟨rfl, rfl, rfl⟩]; rfl
  have e15 : τ.1 4 80 15 = nI 0 := by rw [← hτ, zst_at, if_pos ⟨rfl, rfl, rfl⟩]; rfl
  have ew : τ.2.1 80 = lN 0 := by
    rw [← hτ]
    show (if (80 : Nat) = 80 then (0 : Int64) else s1.2.1 80) = lN 0
    exact if_pos rfl
  rw [e11, m_byte hTτ hs2, Option.bind_some]
  unfold mB
  by_cases q : l ≤ s
  · rw [if_pos q, if_pos rfl, if_pos q, if_pos q]
    refine ⟨_, rfl, ⟨?_, ?_, ?_, fun z => absurd z (by decide), fun z => absurd z (by decide)⟩, (f1.tr fτ).tr (mF.st τ (by decide) (by decide) _)⟩
    · rw [zst_at, if_neg (by omega)]; exact e12
    · rw [zst_at, if_neg (by omega)]; exact e11
    · rw [zst_at, if_pos ⟨rfl, rfl, rfl⟩]; rfl
  · have hb := hTτ.2.1 s
    rw [if_neg q, if_neg (lit_m1 (by omega)), if_neg q, if_neg q, m_let hb, Option.bind_some]
    by_cases q1 : isL (b s) = true
    · rw [if_neg (bI_ne q1), if_pos q1, if_pos q1]
      have f3 := mF.st τ (i := 13) (by decide) (by decide) 2
      refine (m_letters (s := s) (hTτ.fr f3) (l - s) 0 j (by omega) (by rw [zst_at, if_neg (by omega)]; exact e11) (by rw [zst_at, if_neg (by omega)]; exact e14) ew (by omega)).mono (fun s' ⟨k1, k2, k3, k4⟩ => ⟨⟨?_, k1, ?_, fun _ => ⟨k2, k3⟩, fun z => absurd z (by decide)⟩, ((f1.tr fτ).tr f3).tr (fun g o i z => k4 g o i (by omega))⟩)
      · rw [k4 4 80 12 (by omega), zst_at, if_neg (by omega)]; exact e12
      · rw [k4 4 80 13 (by omega), zst_at, if_pos ⟨rfl, rfl, rfl⟩]; rfl
    · rw [if_pos (bI_f (by simpa using q1)), if_neg q1, if_neg q1, m_dig hb, Option.bind_some]
      by_cases q2 : isG (b s) = true
      · rw [if_neg (bI_ne q2), if_pos q2, if_pos q2]
        have f3 := mF.st τ (i := 13) (by decide) (by decide) 3
        refine (m_digs (hTτ.fr f3) (l - s) s 0 j (by omega) (by rw [zst_at, if_neg (by omega)]; exact e11) (by decide) (by rw [zst_at, if_neg (by omega)]; exact e15) (by omega)).mono (fun s' ⟨k1, k2, k3⟩ => ⟨⟨?_, k1, ?_, fun z => absurd z (by decide), fun _ => k2⟩, ((f1.tr fτ).tr f3).tr (fun g o i z => k3 g o i (by omega))⟩)
        · rw [k3 4 80 12 (by omega), zst_at, if_neg (by omega)]; exact e12
        · rw [k3 4 80 13 (by omega), zst_at, if_pos ⟨rfl, rfl, rfl⟩]; rfl
      · rw [if_pos (bI_f (by simpa using q2)), if_neg q2, if_neg q2]
        have fin : ∀ x : Int32, ∀ k : Nat, x = nI (mKd k) → k ≠ 1 → k ≠ 2 → zOk (some (zst (zst τ 4 80 13 x) 4 80 11 ((zst τ 4 80 13 x).1 4 80 11 + 1))) (fun s' => (s'.1 4 80 12 = nI s ∧ s'.1 4 80 11 = nI (s + 1) ∧ s'.1 4 80 13 = nI (mKd k) ∧ (k = 1 → s'.1 4 80 14 = nI (s + 1 - s) ∧ s'.2.1 80 = lN (tP b s (min (s + 1 - s) 11))) ∧ (k = 2 → s'.1 4 80 15 = nI (tV b (l - s) s 0))) ∧ mF σ s') := fun x k hx hk1 hk2 => by
          refine ⟨_, rfl, ⟨?_, ?_, ?_, fun z => absurd z hk1, fun z => absurd z hk2⟩, ((f1.tr fτ).tr (mF.st τ (i := 13) (by decide) (by decide) x)).tr (mF.st _ (i := 11) (by decide) (by decide) _)⟩
          · rw [zst_at, if_neg (by omega), zst_at, if_neg (by omega)]; exact e12
          · rw [zst_at, if_pos ⟨rfl, rfl, rfl⟩, zst_at, if_neg (by omega), e11, nI_1]
          · rw [zst_at, if_neg (by omega), zst_at, if_pos ⟨rfl, rfl, rfl⟩]; exact hx
        have e59 : nI (b s) = (59 : Int32) ↔ b s = 59 := n_eq (k := 59) (by omega) (by decide)
        by_cases q3 : b s = 59
        · rw [if_pos (e59.mpr q3), if_pos q3]
          exact fin 4 3 rfl (by decide) (by decide)
        · rw [if_neg (fun z => q3 (e59.mp z)), if_neg q3]
          exact fin 1 4 rfl (by decide) (by decide)
end LM
/-! words -/
def wd (i : Nat) : List Nat := [[100, 97, 121], [104, 111, 117, 115, 101], [113, 117, 105, 101, 116], [115, 101, 116], [115, 101, 101, 100], [110, 101, 119, 115]].getD i []
def tW (b : Nat → Nat) (l p i : Nat) : Bool := decide (tk b l p = 1) && (decide (te b l p - ts b l p = (wd i).length) && decide (∀ j, j < (wd i).length → b (ts b l p + j) = (wd i).getD j 0))
theorem wd_len : ∀ i, i < 6 → (zsb i).length = (wd i).length ∧ (zsb (i + 6)).length = (wd i).length ∧ (wd i).length ≤ 5 := by decide
theorem wd_at : ∀ i, i < 6 → ∀ j, j < (wd i).length → (zsb i).getD j 0 = nI ((wd i).getD j 0) ∧ (zsb (i + 6)).getD j 0 = nI ((wd i).getD j 0) ∧ 97 ≤ (wd i).getD j 0 ∧ (wd i).getD j 0 ≤ 122 := by decide
section LW
variable {σ : zSt} {b : Nat → Nat} {l : Nat}
theorem x_word (hT : zPx σ b l) {p : Nat} (hp : p ≤ l) (hK : xTk σ b l p) {i : Nat} (hi : i < 6) : F_Text_isWord i σ = some (bI (tW b l p i)) := by
  have l7 := hT.1
  obtain ⟨k1, k2, k3, -⟩ := hK
  obtain ⟨t1, t2, -⟩ := te_in (b := b) hp
  have hkk : tk b l p < 5 := by
    unfold tk
    repeat' split
    all_goals omega
  rw [F_Text_isWord, k2, F_String_length, (wd_len i hi).1]
  unfold tW
  obtain ⟨-, -, w5⟩ := wd_len i hi
  by_cases q : tk b l p = 1
  · rw [if_pos (by rw [q]; rfl), Option.bind_some, k3, k1, pk_sub t1]
    show (if nI (te b l p - ts b l p) = nI (wd i).length then _ else _) = _
    by_cases q2 : te b l p - ts b l p = (wd i).length
    · rw [if_pos (by rw [q2])]
      have tl : ts b l p + (wd i).length ≤ l := by omega
      generalize ts b l p = s at *
      have key : ∀ d k j, k + d = (wd i).length → d < j → (∀ q, q < k → b (s + q) = (wd i).getD q 0) → L_Text_isWord i σ j 0 (nI k) = some (bI (decide (∀ j, j < (wd i).length → b (s + j) = (wd i).getD j 0))) := by
        intro d
        induction d with
        | zero =>
          intro k j hk hj ha
          obtain ⟨j, rfl⟩ : ∃ q, j = q + 1 := ⟨j - 1, by omega⟩
          have : k = (wd i).length := by omega
          subst this
          rw [e_Text_isWord_0, F_String_length, (wd_len i hi).1, Option.bind_some, if_pos (show Int32.ofNat (wd i).length ≤ nI (wd i).length from nI_le0 (by omega)), decide_eq_true ha]
          rfl
        | succ d ih =>
          intro k j hk hj ha
          obtain ⟨j, rfl⟩ : ∃ q, j = q + 1 := ⟨j - 1, by omega⟩
          have hkw : k < (wd i).length := by omega
          have c1 := wd_at i hi k hkw
          have hb := hT.2.1 (s + k)
          rw [e_Text_isWord_0, F_String_length, (wd_len i hi).1, Option.bind_some, if_neg (show ¬ Int32.ofNat (wd i).length ≤ nI k from nI_ge hkw (by omega)), F_String_charAt, (wd_len i hi).1, if_pos (inb_n hkw (by omega)), Option.bind_some, nI_clamp (by omega), c1.1, k1, nI_add, r_get73 (by omega), Option.bind_some, hT.2.2.2 (s + k) (by omega), nI_1]
          by_cases z : b (s + k) = (wd i).getD k 0
          · rw [if_pos (by rw [z])]
            refine ih (k + 1) j (by omega) (by omega) (fun q hq => ?_)
            by_cases y : q = k
            · subst y; exact z
            · exact ha q (by omega)
          · rw [if_neg (fun y => z ((nI_eq (by omega) (by omega)).mp y).symm), decide_eq_false (fun y => z (y k hkw))]
            rfl
      rw [show L_Text_isWord i σ zK 0 0 = L_Text_isWord i σ zK 0 (nI 0) from rfl, key (wd i).length 0 zK (by omega) (zK_lt (by omega)) (fun q hq => absurd hq (Nat.not_lt_zero q)), decide_eq_true q2, decide_eq_true q, Bool.true_and, Bool.true_and]
    · rw [if_neg (fun y => q2 ((nI_eq (by omega) (by omega)).mp y)), decide_eq_false q2]
      simp [bI]
  · rw [if_neg (show ¬ nI (tk b l p) = (1 : Int32) from fun y => q ((nI_eq (b := 1) (by omega) (by decide)).mp y)), decide_eq_false q]
    rfl
theorem lg_0 (x y : Int64) : (if lg_cmp x y = 0 then some (1 : Int32) else some 0) = some (bI (decide (x = y))) := by
  unfold lg_cmp
  by_cases q : x = y
  · subst q
    have : ¬ x > x := Int64.lt_irrefl
    rw [if_neg this, if_pos rfl]; simp [bI]
  · by_cases z : x > y
    · rw [if_pos z]; simp [q, bI]
    · rw [if_neg z, if_neg q]; simp [q, bI]
/-- the packed word of the reference's loop -/
theorem m_wordL (i : Nat) (w : List Nat) (hl : (zsb i).length = w.length) (h5 : w.length ≤ 5) (hw : ∀ j, j < w.length → (zsb i).getD j 0 = nI (w.getD j 0) ∧ 97 ≤ w.getD j 0 ∧ w.getD j 0 ≤ 122) : ∀ d k j, k + d = w.length → d < j → L_Model_isWord i σ j 0 (lN (tP (fun q => w.getD q 0) 0 k)) (nI k) = some (bI (decide (σ.2.1 80 = lN (tP (fun q => w.getD q 0) 0 w.length)))) := by
  intro d
  induction d with
  | zero =>
    intro k j hk hj
    obtain ⟨j, rfl⟩ : ∃ q, j = q + 1 := ⟨j - 1, by omega⟩
    have : k = w.length := by omega
    subst this
    rw [e_Model_isWord_0, F_String_length, hl, Option.bind_some, if_pos (show Int32.ofNat w.length ≤ nI w.length from nI_le0 (by omega)), lg_0]
  | succ d ih =>
    intro k j hk hj
    obtain ⟨j, rfl⟩ : ∃ q, j = q + 1 := ⟨j - 1, by omega⟩
    have hkw : k < w.length := by omega
    obtain ⟨c1, c2, c3⟩ := hw k hkw
    rw [e_Model_isWord_0, F_String_length, hl, Option.bind_some, if_neg (show ¬ Int32.ofNat w.length ≤ nI k from nI_ge hkw (by omega)), F_String_charAt, hl, if_pos (inb_n hkw (by omega)), Option.bind_some, nI_clamp (by omega), c1, nI_l (by omega), show (27 : Int64) = lN 27 from rfl, show (96 : Int64) = lN 96 from rfl, lN_mul, lN_add, lN_sub (by omega), nI_1]
    have e : 27 * tP (fun q => w.getD q 0) 0 k + w.getD k 0 - 96 = tP (fun q => w.getD q 0) 0 (k + 1) := by
      show _ = 27 * tP (fun q => w.getD q 0) 0 k + (w.getD (0 + k) 0 - 96)
      rw [Nat.zero_add]
      omega
    rw [e]
    exact ih (k + 1) j (by omega) (by omega)
theorem tP_lt {b : Nat → Nat} {s : Nat} : ∀ {k : Nat}, (∀ j, j < k → b (s + j) ≤ 122) → tP b s k < 27 ^ k
  | 0, _ => (by decide : (0 : Nat) < 27 ^ 0)
  | k + 1, h => by
    have ih := tP_lt (k := k) (fun j hj => h j (by omega))
    have := h k (by omega)
    rw [tP, Nat.pow_succ]
    omega
theorem tP_inj {b c : Nat → Nat} {s t : Nat} : ∀ {k : Nat}, (∀ j, j < k → 97 ≤ b (s + j) ∧ b (s + j) ≤ 122) → (∀ j, j < k → 97 ≤ c (t + j) ∧ c (t + j) ≤ 122) → (tP b s k = tP c t k ↔ ∀ j, j < k → b (s + j) = c (t + j))
  | 0, _, _ => ⟨fun _ j hj => absurd hj (Nat.not_lt_zero j), fun _ => rfl⟩
  | k + 1, h1, h2 => by
    have ih := tP_inj (k := k) (fun j hj => h1 j (by omega)) (fun j hj => h2 j (by omega))
    have a := h1 k (by omega)
    have d := h2 k (by omega)
    constructor
    · intro e j hj
      rw [tP, tP] at e
      have e1 : tP b s k = tP c t k := by omega
      by_cases z : j = k
      · subst z; omega
      · exact ih.mp e1 j (by omega)
    · intro e
      rw [tP, tP, ih.mpr (fun j hj => e j (by omega)), e k (by omega)]
theorem m_word {p : Nat} (hp : p ≤ l) (l7 : l ≤ 700) (hb : ∀ i, b i < 256) (hK : mTk σ b l p) {i : Nat} (hi : i < 6) : F_Model_isWord (i + 6) σ = some (bI (tW b l p i)) := by
  obtain ⟨k1, k2, k3, k4, -⟩ := hK
  obtain ⟨t1, t2, -⟩ := te_in (b := b) hp
  obtain ⟨-, w6, w5⟩ := wd_len i hi
  have hkk : tk b l p < 5 := by
    unfold tk
    repeat' split
    all_goals omega
  have mk2 : nI (mKd (tk b l p)) = (2 : Int32) ↔ tk b l p = 1 := by
    rcases (show tk b l p = 0 ∨ tk b l p = 1 ∨ tk b l p = 2 ∨ tk b l p = 3 ∨ tk b l p = 4 by omega) with h | h | h | h | h <;> rw [h] <;> decide
  rw [F_Model_isWord, k3, F_String_length, w6]
  unfold tW
  by_cases q : tk b l p = 1
  · obtain ⟨k5, k6⟩ := k4 q
    rw [if_pos (mk2.mpr q), Option.bind_some, k5]
    show (if nI (te b l p - ts b l p) = nI (wd i).length then _ else _) = _
    by_cases q2 : te b l p - ts b l p = (wd i).length
    · have tl : ts b l p + (wd i).length ≤ l := by omega
      have let1 : ∀ j, j < (wd i).length → isL (b (ts b l p + j)) = true := fun j hj => by
        have h1 : te b l p = tLe b (l - ts b l p) (ts b l p) := by
          unfold te
          unfold tk at q
          by_cases z : l ≤ ts b l p
          · rw [if_pos z] at q; exact absurd q (by decide)
          · rw [if_neg z] at q
            by_cases y : isL (b (ts b l p)) = true
            · rw [if_neg z, if_pos y]
            · rw [if_neg y] at q
              by_cases x : isG (b (ts b l p)) = true
              · rw [if_pos x] at q; exact absurd q (by decide)
              · rw [if_neg x] at q
                by_cases u : b (ts b l p) = 59
                · rw [if_pos u] at q; exact absurd q (by decide)
                · rw [if_neg u] at q; exact absurd q (by decide)
        exact tLe_all (d := l - ts b l p) (p := ts b l p) (by omega) (by omega)
      rw [if_pos (by rw [q2])]
      have st : L_Model_isWord (i + 6) σ zK 0 (0 : Int64) (0 : Int32) = L_Model_isWord (i + 6) σ zK 0 (lN (tP (fun q => (wd i).getD q 0) 0 0)) (nI 0) := rfl
      rw [st, m_wordL (i + 6) (wd i) w6 w5 (fun j hj => ⟨(wd_at i hi j hj).2.1, (wd_at i hi j hj).2.2⟩) (wd i).length 0 zK (by omega) (zK_lt (by omega)), k6, q2, show min (wd i).length 11 = (wd i).length by omega, decide_eq_true q, decide_eq_true (show (wd i).length = (wd i).length from rfl), Bool.true_and, Bool.true_and]
      have let2 : ∀ j, j < (wd i).length → 97 ≤ b (ts b l p + j) ∧ b (ts b l p + j) ≤ 122 := fun j hj => by
        have := let1 j hj
        unfold isL at this
        simpa using this
      have let3 : ∀ j, j < (wd i).length → 97 ≤ (fun q => (wd i).getD q 0) (0 + j) ∧ (fun q => (wd i).getD q 0) (0 + j) ≤ 122 := fun j hj => by
        show 97 ≤ (wd i).getD (0 + j) 0 ∧ (wd i).getD (0 + j) 0 ≤ 122
        rw [Nat.zero_add]
        exact (wd_at i hi j hj).2.2
      have b1 := tP_lt (b := b) (s := ts b l p) (k := (wd i).length) (fun j hj => (let2 j hj).2)
      have b2 := tP_lt (b := fun q => (wd i).getD q 0) (s := 0) (k := (wd i).length) (fun j hj => (let3 j hj).2)
      have pw : 27 ^ (wd i).length ≤ 27 ^ 5 := Nat.pow_le_pow_right (by decide) w5
      have inj := tP_inj (b := b) (c := fun q => (wd i).getD q 0) (s := ts b l p) (t := 0) let2 let3
      congr 2
      rw [decide_eq_decide, pk_lEQ (by omega) (by omega), inj]
      constructor
      · intro h j hj
        have := h j hj
        rwa [Nat.zero_add] at this
      · intro h j hj
        rw [Nat.zero_add]
        exact h j hj
    · rw [if_neg (fun y => q2 ((nI_eq (by omega) (by omega)).mp y)), decide_eq_false q2]
      simp [bI]
  · rw [if_neg (fun y => q (mk2.mp y)), decide_eq_false q]
    rfl
end LW
