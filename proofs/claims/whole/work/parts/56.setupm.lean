/-! the reference reads a setup so -/
theorem eb_r {β γ : Type} {x : pE ⊕ β} {f : β → pE ⊕ γ} {r : γ} (h : eb x f = .inr r) : ∃ v, x = .inr v ∧ f v = .inr r := by
  cases x with
  | inl e => exact absurd h (fun z => by cases z)
  | inr v => exact ⟨v, rfl, h⟩
theorem pN_le {b : Nat → Nat} {l p lo hx : Nat} {w : Nat × Nat} (h : pN b l p lo hx = .inr w) (hp : p ≤ l) : p ≤ w.2 ∧ w.2 ≤ l := by
  obtain ⟨t1, t2⟩ := ts_in (b := b) hp
  obtain ⟨t3, t4, -⟩ := te_in (b := b) hp
  unfold pN at h
  split at h
  · split at h
    · cases h
    · have h := Sum.inr.inj h
      rw [← h]
      exact ⟨by show p ≤ te b l p; omega, t4⟩
  · cases h
theorem te_le {b : Nat → Nat} {l p : Nat} (hp : p ≤ l) : p ≤ te b l p ∧ te b l p ≤ l := by
  obtain ⟨t1, t2⟩ := ts_in (b := b) hp
  obtain ⟨t3, t4, -⟩ := te_in (b := b) hp
  omega
theorem pOne_le {b : Nat → Nat} {l n m p : Nat} {A : zAb} {r : pS} (h : pOne b l A n m p = .inr r) (hp : p ≤ l) : p ≤ r.2.2.2 ∧ r.2.2.2 ≤ l := by
  obtain ⟨t1, t2⟩ := te_le (b := b) hp
  unfold pOne at h
  split at h
  · unfold pHouse at h
    split at h
    · cases h
    · obtain ⟨x, e1, h⟩ := eb_r h
      obtain ⟨y, e2, h⟩ := eb_r h
      obtain ⟨z, e3, h⟩ := eb_r h
      obtain ⟨u, e4, h⟩ := eb_r h
      obtain ⟨v, e5, h⟩ := eb_r h
      have g1 := pN_le e1 t2
      have g2 := pN_le e2 g1.2
      have g3 := pN_le e3 g2.2
      have g4 := pN_le e4 g3.2
      have g5 := pN_le e5 g4.2
      split at h
      · obtain ⟨f, e6, h⟩ := eb_r h
        obtain ⟨t, e7, h⟩ := eb_r h
        have g6 := te_le (b := b) g5.2
        have g7 := pN_le e6 g6.2
        have g8 := pN_le e7 g7.2
        have h := Sum.inr.inj h
        rw [← h]
        exact ⟨by show p ≤ t.2; omega, g8.2⟩
      · have h := Sum.inr.inj h
        rw [← h]
        exact ⟨by show p ≤ v.2; omega, g5.2⟩
  · split at h
    · unfold pSet at h
      obtain ⟨x, e1, h⟩ := eb_r h
      obtain ⟨y, e2, h⟩ := eb_r h
      have g1 := pN_le e1 t2
      have g2 := pN_le e2 g1.2
      have h := Sum.inr.inj h
      rw [← h]
      exact ⟨by show p ≤ y.2; omega, g2.2⟩
    · split at h
      · unfold pSeed at h
        obtain ⟨x, e1, h⟩ := eb_r h
        have g1 := pN_le e1 t2
        have h := Sum.inr.inj h
        rw [← h]
        exact ⟨by show p ≤ x.2; omega, g1.2⟩
      · split at h
        · unfold pNews at h
          split at h
          · cases h
          · obtain ⟨x, e1, h⟩ := eb_r h
            obtain ⟨y, e2, h⟩ := eb_r h
            have g1 := pN_le e1 t2
            have g2 := pN_le e2 g1.2
            have h := Sum.inr.inj h
            rw [← h]
            exact ⟨by show p ≤ y.2; omega, g2.2⟩
        · cases h
theorem pEnd_lt {b : Nat → Nat} {l : Nat} {q r : pS} (h : pEnd b l q = .inr r) (hp : q.2.2.2 ≤ l) : q.2.2.2 < r.2.2.2 := by
  obtain ⟨t1, t2⟩ := ts_in (b := b) hp
  obtain ⟨t3, t4, t5⟩ := te_in (b := b) hp
  unfold pEnd at h
  split at h
  · rename_i k
    have h := Sum.inr.inj h
    rw [← h]
    have := t5 (by omega)
    show q.2.2.2 < te b l q.2.2.2
    omega
  · cases h
def mFr (σ0 σ : zSt) : Prop := ∀ g o i, ¬ (g = 4 ∧ (o = 81 ∨ o = 90 ∨ (o = 80 ∧ 11 ≤ i))) → σ.1 g o i = σ0.1 g o i
theorem mFr.rf (σ : zSt) : mFr σ σ := fun _ _ _ _ => rfl
theorem mFr.tr {σ s2 s3 : zSt} (h : mFr σ s2) (h2 : mFr s2 s3) : mFr σ s3 := fun g o i q => (h2 g o i q).trans (h g o i q)
theorem mFr.f {σ s2 : zSt} (h : mF σ s2) : mFr σ s2 := fun g o i q => h g o i (by omega)
theorem mFr.m {σ s2 : zSt} (h : zfM σ s2) : mFr σ s2 := fun g o i q => by
  by_cases z : g = 4 ∧ o = 80
  · obtain ⟨rfl, rfl⟩ := z
    exact h.2.1 i (by omega)
  · exact h.1 g o i (by omega)
def mE (σ0 σ : zSt) (e : pE) : Prop := mFr σ0 σ ∧ σ.1 4 80 16 = nI e.1 ∧ 1 ≤ e.1 ∧ e.1 ≤ 3 ∧ σ.1 4 80 17 = nI e.2
def mOk (b : Nat → Nat) (l : Nat) (σ0 σ : zSt) (A : zAb) (n m p : Nat) : Prop := mFr σ0 σ ∧ σ.1 4 80 16 = 0 ∧ σ.1 4 80 17 = -1 ∧ p ≤ l ∧ zPm σ b l ∧ mTk σ b l p ∧ zMr σ A ∧ aInv A n m 0
def mR (b : Nat → Nat) (l : Nat) (σ0 σ : zSt) : pE ⊕ pS → Prop
  | .inl e => mE σ0 σ e
  | .inr q => mOk b l σ0 σ q.1 q.2.1 q.2.2.1 q.2.2.2
theorem mE.ne {σ0 σ : zSt} {e : pE} (h : mE σ0 σ e) : ¬ σ.1 4 80 16 = 0 := by
  rw [h.2.1]
  exact nI_ne0 h.2.2.1 (by have := h.2.2.2.1; omega)
theorem zMr.f {σ σ' : zSt} {A : zAb} (h : zMr σ A) (f : mF σ σ') : zMr σ' A := h.same (fun i => f 4 81 i (by omega)) (fun i hi => f 4 80 i (by omega))
section PM
variable {σ0 σ : zSt} {b : Nat → Nat} {l : Nat} {A : zAb} {n m p : Nat}
theorem m_req1 (k : Int32) : F_Model_require 1 k σ = some σ := by rw [F_Model_require, if_neg (by decide)]
theorem m_reqE (he : ¬ σ.1 4 80 16 = 0) (y k : Int32) : F_Model_require y k σ = some σ := by
  rw [F_Model_require]
  by_cases q : y = 0
  · rw [if_pos q, if_neg he]
  · rw [if_neg q]
theorem m_fineE (he : ¬ σ.1 4 80 16 = 0) : F_Model_isFine σ = some 0 := by rw [F_Model_isFine, if_neg he]
theorem m_fine1 (h : σ.1 4 80 16 = 0) : F_Model_isFine σ = some 1 := by rw [F_Model_isFine, if_pos h]
theorem m_advE (he : ¬ σ.1 4 80 16 = 0) : F_Model_advance σ = some σ := by rw [F_Model_advance, m_fineE he, Option.bind_some, if_pos rfl]
theorem m_numE (he : ¬ σ.1 4 80 16 = 0) (lo hi : Int32) : F_Model_parseNumber lo hi σ = some (σ.1 4 80 15, σ) := by
  have key : ∀ y, B_Model_parseNumber_14 lo hi y σ = some (σ.1 4 80 15, σ) := fun y => by
    rw [B_Model_parseNumber_14, m_reqE he, Option.bind_some]
    cases z : zBt (σ.1 4 80 15) lo hi with
    | true => rw [m_in1 z, Option.bind_some, m_reqE he, Option.bind_some, m_advE he, Option.bind_some]
    | false => rw [m_in0 z, Option.bind_some, m_reqE he, Option.bind_some, m_advE he, Option.bind_some]
  rw [F_Model_parseNumber]
  split <;> exact key _
theorem mOk.up {σ' : zSt} {A' : zAb} {n' m' : Nat} (h : mOk b l σ0 σ A n m p) (f : zfM σ σ') (hM : zMr σ' A') (hI : aInv A' n' m' 0) : mOk b l σ0 σ' A' n' m' p := by
  obtain ⟨h1, h2, h3, h4, h5, ⟨k1, k2, k3, k4, k5⟩, -⟩ := h
  have g : ∀ i, i < 20 → σ'.1 4 80 i = σ.1 4 80 i := f.2.1
  refine ⟨h1.tr (mFr.m f), (g 16 (by decide)).trans h2, (g 17 (by decide)).trans h3, h4, ⟨h5.1, h5.2.1, (g 10 (by decide)).trans h5.2.2.1, fun i hi => (f.1 4 89 i (by omega)).trans (h5.2.2.2 i hi)⟩, ⟨(g 12 (by decide)).trans k1, (g 11 (by decide)).trans k2, (g 13 (by decide)).trans k3, fun q => ⟨(g 14 (by decide)).trans (k4 q).1, by rw [f.2.2]; exact (k4 q).2⟩, fun q => (g 15 (by decide)).trans (k5 q)⟩, hM, hI⟩
theorem m_req0 (h : mOk b l σ0 σ A n m p) {k : Nat} (k1 : 1 ≤ k) (k3 : k ≤ 3) : zOk (F_Model_require 0 (nI k) σ) (fun s => mE σ0 s (k, ts b l p)) := by
  obtain ⟨h1, h2, h3, h4, h5, hK, -⟩ := h
  rw [F_Model_require, if_pos rfl, if_pos h2]
  refine ⟨_, rfl, h1.tr (fun g o i q => by rw [zst_at, if_neg (by omega), zst_at, if_neg (by omega)]), by rw [zst_at, if_neg (by omega), zst_at, if_pos ⟨rfl, rfl, rfl⟩], k1, k3, ?_⟩
  rw [zst_at, if_pos ⟨rfl, rfl, rfl⟩, zst_at, if_neg (by omega)]
  exact hK.1
theorem m_adv (h : mOk b l σ0 σ A n m p) : zOk (F_Model_advance σ) (fun s => mOk b l σ0 s A n m (te b l p)) := by
  obtain ⟨h1, h2, h3, h4, h5, hK, hM, hI⟩ := h
  obtain ⟨-, te2, -⟩ := te_in (b := b) h4
  rw [F_Model_advance, m_fine1 h2, Option.bind_some, if_neg (by decide)]
  exact zOk.bind (m_next h5 te2 hK.2.1) (fun s ⟨k1, k2⟩ => ⟨_, rfl, h1.tr (mFr.f k2), (k2 4 80 16 (by omega)).trans h2, (k2 4 80 17 (by omega)).trans h3, te2, h5.fr k2, k1, hM.f k2, hI⟩)
theorem mKd_lt {k : Nat} : mKd k < 5 := by
  unfold mKd
  repeat' split
  all_goals omega
theorem mKd_is {k j : Nat} (hk : k < 5) : (nI (mKd (tk b l p)) = nI (mKd k)) ↔ tk b l p = k := by
  have h5 := tk_5 (b := b) (l := l) (p := p)
  have l1 := mKd_lt (k := tk b l p)
  have l2 := mKd_lt (k := k)
  rw [nI_eq (by omega) (by omega)]
  generalize tk b l p = t at *
  revert t k
  have : ∀ k, k < 5 → ∀ t, t < 5 → (mKd t = mKd k ↔ t = k) := by decide
  intro k hk _ t ht _
  exact this k hk t ht
theorem m_num (h : mOk b l σ0 σ A n m p) {lo hx : Nat} {hi : Int32} (hlo : lo < 2 ^ 31) (hx7 : hx ≤ 10000000) (hhi : ∀ v, v < 200000000 → (nI v ≤ hi ↔ v < hx)) : zOk (F_Model_parseNumber (nI lo) hi σ) (fun q => match pN b l p lo hx with | .inl e => mE σ0 q.2 e | .inr w => q.1 = nI w.1 ∧ lo ≤ w.1 ∧ w.1 < hx ∧ mOk b l σ0 q.2 A n m w.2) := by
  have hh := h
  obtain ⟨h1, h2, h3, h4, h5, ⟨k1, k2, k3, k4, k5⟩, hM, hI⟩ := h
  have e3 : nI (mKd (tk b l p)) = (3 : Int32) ↔ tk b l p = 2 := mKd_is (k := 2) (j := 0) (by decide)
  rw [F_Model_parseNumber, k3]
  unfold pN
  by_cases q : tk b l p = 2
  · rw [if_pos (e3.mpr q), if_pos q, B_Model_parseNumber_14, m_req1, Option.bind_some, k5 q]
    have tv := tV_lt (b := b) h5.2.1 (d := l - ts b l p) (p := ts b l p) (v := 0) (by decide)
    have tv : tn b l p < 200000000 := tv
    have k5q := k5 q
    generalize tn b l p = v at *
    by_cases q1 : lo ≤ v ∧ v < hx
    · have zb : zBt (nI v) (nI lo) hi = true := by
        unfold zBt
        simp [nI_nlt q1.1 (by omega), Int32.not_lt.mpr ((hhi v tv).mpr q1.2)]
      rw [m_in1 zb, Option.bind_some, m_req1, Option.bind_some, if_neg (by omega), k5q]
      exact zOk.bind (m_adv hh) (fun s g => ⟨_, rfl, by show nI v = nI (min v 10000000); rw [show min v 10000000 = v by omega], by show lo ≤ min v 10000000; omega, by show min v 10000000 < hx; omega, g⟩)
    · have zb : zBt (nI v) (nI lo) hi = false := by
        unfold zBt
        by_cases y : v < lo
        · simp [nI_lt y hlo]
        · have y2 : ¬ v < hx := by omega
          have y3 : ¬ nI v ≤ hi := fun z => y2 ((hhi v tv).mp z)
          simp [Int32.not_le.mp y3]
      rw [m_in0 zb, Option.bind_some, if_pos (by omega)]
      refine zOk.bind (m_req0 hh (k := 2) (by decide) (by decide)) (fun s g => ?_)
      rw [m_advE g.ne, Option.bind_some]
      exact ⟨_, rfl, g⟩
  · rw [if_neg (fun y => q (e3.mp y)), if_neg q, B_Model_parseNumber_14]
    refine zOk.bind (m_req0 hh (k := 1) (by decide) (by decide)) (fun s g => ?_)
    cases z : zBt (s.1 4 80 15) (nI lo) hi with
    | true =>
      rw [m_in1 z, Option.bind_some, m_reqE g.ne, Option.bind_some, m_advE g.ne, Option.bind_some]
      exact ⟨_, rfl, g⟩
    | false =>
      rw [m_in0 z, Option.bind_some, m_reqE g.ne, Option.bind_some, m_advE g.ne, Option.bind_some]
      exact ⟨_, rfl, g⟩
theorem m_end (h : mOk b l σ0 σ A n m p) : zOk (F_Model_parseEnd σ) (fun s => mR b l σ0 s (pEnd b l (A, n, m, p))) := by
  have hh := h
  obtain ⟨h1, h2, h3, h4, h5, ⟨k1, k2, k3, k4, k5⟩, hM, hI⟩ := h
  have e4 : nI (mKd (tk b l p)) = (4 : Int32) ↔ tk b l p = 3 := mKd_is (k := 3) (j := 0) (by decide)
  rw [F_Model_parseEnd, k3]
  unfold pEnd
  by_cases q : tk b l p = 3
  · rw [if_pos (e4.mpr q), if_pos q, m_req1, Option.bind_some]
    exact zOk.bind (m_adv hh) (fun s g => ⟨_, rfl, g⟩)
  · rw [if_neg (fun y => q (e4.mp y)), if_neg q]
    refine zOk.bind (m_req0 hh (k := 1) (by decide) (by decide)) (fun s g => ?_)
    rw [m_advE g.ne, Option.bind_some]
    exact ⟨_, rfl, g⟩
theorem m_endE {e : pE} (h : mE σ0 σ e) : F_Model_parseEnd σ = some σ := by
  rw [F_Model_parseEnd]
  split
  · rw [m_reqE h.ne, Option.bind_some, m_advE h.ne, Option.bind_some]
  · rw [m_reqE h.ne, Option.bind_some, m_advE h.ne, Option.bind_some]
theorem m_tail {r : pE ⊕ pS} (h : mR b l σ0 σ r) : zOk (F_Model_parseEnd σ) (fun s => mR b l σ0 s (eb r (pEnd b l))) := by
  cases r with
  | inl e => rw [m_endE h]; exact ⟨_, rfl, h⟩
  | inr q => exact m_end h
theorem m_house (h : mOk b l σ0 σ A n m p) : zOk (F_Model_parseHouse σ) (fun s => mR b l σ0 s (pHouse b l A n m p)) := by
  have hn := h.2.2.2.2.2.2.2.1.2.2.1
  have e6 : σ.1 4 81 6 = nI n := (h.2.2.2.2.2.2.1.sc (by decide)).trans h.2.2.2.2.2.2.2.1.1
  rw [F_Model_parseHouse, e6]
  unfold pHouse
  by_cases q : n < 12
  · rw [if_neg (show ¬ (12 : Int32) ≤ nI n from nI_ge (b := 12) q (by decide)), if_neg (by omega), B_Model_parseHouse_18, m_req1, Option.bind_some]
    refine zOk.bind (m_adv h) (fun s1 h1 => ?_)
    have k1 := m_num h1 (lo := 0) (hx := 100) (hi := 99) (by decide) (by decide) (hi_of (hx := 100) (by decide) (by decide))
    cases e1 : pN b l (te b l p) 0 100 with
    | inl e =>
      rw [e1] at k1
      refine zOk.bd2 k1 (fun r s he => ?_)
      have he : mE σ0 s e := he
      simp only [m_numE he.ne, m_fineE he.ne, bd2_some, Option.bind_some, z00, if_true, B_Model_parseHouse_126]
      exact ⟨_, rfl, he⟩
    | inr w1 =>
    rw [e1] at k1
    refine zOk.bd2 k1 (fun r s2 hk => ?_)
    obtain ⟨rfl, -, b1, h2⟩ : r = nI w1.1 ∧ 0 ≤ w1.1 ∧ w1.1 < 100 ∧ mOk b l σ0 s2 A n m w1.2 := hk
    have k2 := m_num h2 (lo := 0) (hx := 100) (hi := 99) (by decide) (by decide) (hi_of (hx := 100) (by decide) (by decide))
    show zOk _ (fun s => mR b l σ0 s (eb (pN b l w1.2 0 100) _))
    cases e2 : pN b l w1.2 0 100 with
    | inl e =>
      rw [e2] at k2
      refine zOk.bd2 k2 (fun r s he => ?_)
      have he : mE σ0 s e := he
      simp only [m_numE he.ne, m_fineE he.ne, bd2_some, Option.bind_some, z00, if_true, B_Model_parseHouse_126]
      exact ⟨_, rfl, he⟩
    | inr w2 =>
    rw [e2] at k2
    refine zOk.bd2 k2 (fun r s3 hk => ?_)
    obtain ⟨rfl, -, b2, h3⟩ : r = nI w2.1 ∧ 0 ≤ w2.1 ∧ w2.1 < 100 ∧ mOk b l σ0 s3 A n m w2.2 := hk
    have k3 := m_num h3 (lo := 0) (hx := 151) (hi := 150) (by decide) (by decide) (hi_of (hx := 151) (by decide) (by decide))
    show zOk _ (fun s => mR b l σ0 s (eb (pN b l w2.2 0 151) _))
    cases e3 : pN b l w2.2 0 151 with
    | inl e =>
      rw [e3] at k3
      refine zOk.bd2 k3 (fun r s he => ?_)
      have he : mE σ0 s e := he
      simp only [m_numE he.ne, m_fineE he.ne, bd2_some, Option.bind_some, z00, if_true, B_Model_parseHouse_126]
      exact ⟨_, rfl, he⟩
    | inr w3 =>
    rw [e3] at k3
    refine zOk.bd2 k3 (fun r s4 hk => ?_)
    obtain ⟨rfl, -, b3, h4⟩ : r = nI w3.1 ∧ 0 ≤ w3.1 ∧ w3.1 < 151 ∧ mOk b l σ0 s4 A n m w3.2 := hk
    have k4 := m_num h4 (lo := 0) (hx := 1000) (hi := 999) (by decide) (by decide) (hi_of (hx := 1000) (by decide) (by decide))
    show zOk _ (fun s => mR b l σ0 s (eb (pN b l w3.2 0 1000) _))
    cases e4 : pN b l w3.2 0 1000 with
    | inl e =>
      rw [e4] at k4
      refine zOk.bd2 k4 (fun r s he => ?_)
      have he : mE σ0 s e := he
      simp only [m_numE he.ne, m_fineE he.ne, bd2_some, Option.bind_some, z00, if_true, B_Model_parseHouse_126]
      exact ⟨_, rfl, he⟩
    | inr w4 =>
    rw [e4] at k4
    refine zOk.bd2 k4 (fun r s5 hk => ?_)
    obtain ⟨rfl, -, b4, h5⟩ : r = nI w4.1 ∧ 0 ≤ w4.1 ∧ w4.1 < 1000 ∧ mOk b l σ0 s5 A n m w4.2 := hk
    have k5 := m_num h5 (lo := 1) (hx := 10) (hi := 9) (by decide) (by decide) (hi_of (hx := 10) (by decide) (by decide))
    show zOk _ (fun s => mR b l σ0 s (eb (pN b l w4.2 1 10) _))
    cases e5 : pN b l w4.2 1 10 with
    | inl e =>
      rw [e5] at k5
      refine zOk.bd2 k5 (fun r s he => ?_)
      have he : mE σ0 s e := he
      simp only [m_fineE he.ne, Option.bind_some, z00, if_true, B_Model_parseHouse_126]
      exact ⟨_, rfl, he⟩
    | inr w5 =>
    rw [e5] at k5
    refine zOk.bd2 k5 (fun r s6 hk => ?_)
    obtain ⟨rfl, b5, b5', h6⟩ : r = nI w5.1 ∧ 1 ≤ w5.1 ∧ w5.1 < 10 ∧ mOk b l σ0 s6 A n m w5.2 := hk
    have hI := h6.2.2.2.2.2.2.2
    obtain ⟨d, d1, d2, ed⟩ := hI.2.1.1
    have edy : dy A = d := by unfold dy; rw [ed, nI_clamp (by omega)]
    have hIA : aInv (aHouse A n (nI w1.1) (nI w2.1) (nI w3.1) (nI w4.1) (nI w5.1)) (n + 1) m 0 := aInv_house hI q (show w1.1 ≤ 99 by omega) (show w2.1 ≤ 99 by omega) (show w3.1 ≤ 150 by omega) (show w4.1 ≤ 999 by omega) ⟨b5, by omega⟩
    -- the house, its hours x and y
    have fin : ∀ (s : zSt) (p' : Nat) (x y : Int32), mOk b l σ0 s A n m p' → zOk (B_Model_parseHouse_126 (nI w1.1) (nI w2.1) (nI w3.1) (nI w4.1) (nI w5.1) x y s) (fun s' => mOk b l σ0 s' (aup (aup (aHouse A n (nI w1.1) (nI w2.1) (nI w3.1) (nI w4.1) (nI w5.1)) 1 n 5 x) 1 n 6 y) (n + 1) m p') := fun s p' x y hs => by
      rw [B_Model_parseHouse_126, m_fine1 hs.2.1, Option.bind_some, if_neg (by decide)]
      refine zOk.bd2 (m_appendHouse hs.2.2.2.2.2.2.1 hI.1.1 q _ _ _ _ _) (fun r2 s2 ⟨g1, g2, g3⟩ => ?_)
      have g1 : r2 = nI n := g1
      subst g1
      refine zOk.bind (m_put5 g2 (show n < 12 from q) x) (fun s3 ⟨g4, g5⟩ => ?_)
      refine zOk.bind (m_put6 g4 (show n < 12 from q) y) (fun s4 ⟨g6, g7⟩ => ?_)
      exact ⟨_, rfl, hs.up ((g3.tr g5).tr g7) g6 (aInv_quiet hIA n x y)⟩
    rw [m_fine1 h6.2.1, Option.bind_some, if_neg (by decide)]
    show zOk _ (fun s => mR b l σ0 s (if tW b l w5.2 2 = true then _ else _))
    rw [show F_Model_isWord 8 s6 = some (bI (tW b l w5.2 2)) from m_word h6.2.2.2.1 h6.2.2.2.2.1.1 h6.2.2.2.2.1.2.1 h6.2.2.2.2.2.1 (i := 2) (by decide), Option.bind_some]
    by_cases z : tW b l w5.2 2 = true
    · rw [if_neg (bI_ne z), if_pos z]
      refine zOk.bind (m_adv h6) (fun s8 h8 => ?_)
      have hid : ∀ v, v < 200000000 → (nI v ≤ nI d - 1 ↔ v < d) := by
        rw [show nI d - 1 = nI (d - 1) from pk_sub (b := 1) (by omega)]
        exact hi_of (by omega) (by omega)
      have day8 : ∀ s p', mOk b l σ0 s A n m p' → s.1 4 81 5 - 1 = nI d - 1 := fun s p' hs => by rw [hs.2.2.2.2.2.2.1.sc (by decide), ed]
      rw [day8 _ _ h8, edy]
      have k9 := m_num h8 (lo := 0) (hx := d) (by decide) (by omega) hid
      cases e9 : pN b l (te b l w5.2) 0 d with
      | inl e =>
        rw [e9] at k9
        refine zOk.bd2 k9 (fun r s he => ?_)
        have he : mE σ0 s e := he
        simp only [m_numE he.ne, m_fineE he.ne, bd2_some, Option.bind_some, z00, if_true, B_Model_parseHouse_126]
        exact ⟨_, rfl, he⟩
      | inr w9 =>
      rw [e9] at k9
      refine zOk.bd2 k9 (fun r s9 hk => ?_)
      obtain ⟨rfl, -, b9, h9⟩ : r = nI w9.1 ∧ 0 ≤ w9.1 ∧ w9.1 < d ∧ mOk b l σ0 s9 A n m w9.2 := hk
      rw [day8 _ _ h9]
      have k10 := m_num h9 (lo := 0) (hx := d) (by decide) (by omega) hid
      show zOk _ (fun s => mR b l σ0 s (eb (pN b l w9.2 0 d) _))
      cases e10 : pN b l w9.2 0 d with
      | inl e =>
        rw [e10] at k10
        refine zOk.bd2 k10 (fun r s he => ?_)
        have he : mE σ0 s e := he
        simp only [m_fineE he.ne, Option.bind_some, z00, if_true, B_Model_parseHouse_126]
        exact ⟨_, rfl, he⟩
      | inr w10 =>
      rw [e10] at k10
      refine zOk.bd2 k10 (fun r s11 hk => ?_)
      obtain ⟨rfl, -, b10, h11⟩ : r = nI w10.1 ∧ 0 ≤ w10.1 ∧ w10.1 < d ∧ mOk b l σ0 s11 A n m w10.2 := hk
      exact fin s11 w10.2 _ _ h11
    · rw [if_pos (bI_f (by simpa using z)), if_neg z]
      refine (fin s6 w5.2 (-1) (-1) h6).mono (fun s' g => ?_)
      have e : aup (aup (aHouse A n (nI w1.1) (nI w2.1) (nI w3.1) (nI w4.1) (nI w5.1)) 1 n 5 (-1)) 1 n 6 (-1) = aHouse A n (nI w1.1) (nI w2.1) (nI w3.1) (nI w4.1) (nI w5.1) := by
        funext f i j
        have a5 : aHouse A n (nI w1.1) (nI w2.1) (nI w3.1) (nI w4.1) (nI w5.1) 1 n 5 = -1 := by rw [aHo_h (by decide)]; rfl
        have a6 : aHouse A n (nI w1.1) (nI w2.1) (nI w3.1) (nI w4.1) (nI w5.1) 1 n 6 = -1 := by rw [aHo_h (by decide)]; rfl
        unfold aup
        by_cases c6 : f = 1 ∧ i = n ∧ j = 6
        · rw [if_pos c6]
          obtain ⟨rfl, rfl, rfl⟩ := c6
          exact a6.symm
        · rw [if_neg c6]
          by_cases c5 : f = 1 ∧ i = n ∧ j = 5
          · rw [if_pos c5]
            obtain ⟨rfl, rfl, rfl⟩ := c5
            exact a5.symm
          · rw [if_neg c5]
      rw [e] at g
      exact g
  · rw [if_pos (show (12 : Int32) ≤ nI n from nI_le (a := 12) (by omega) (by omega)), if_pos (by omega), B_Model_parseHouse_18]
    refine zOk.bind (m_req0 h (k := 3) (by decide) (by decide)) (fun s he => ?_)
    simp only [m_advE he.ne, m_numE he.ne, m_fineE he.ne, bd2_some, Option.bind_some, z00, if_true, B_Model_parseHouse_126]
    exact ⟨_, rfl, he⟩
theorem m_pset (hKn : zKn σ0) (h : mOk b l σ0 σ A n m p) : zOk (F_Model_parseSet σ) (fun s => mR b l σ0 s (pSet b l A n m p)) := by
  rw [F_Model_parseSet]
  unfold pSet
  refine zOk.bind (m_adv h) (fun s1 h1 => ?_)
  have k1 := m_num h1 (lo := 0) (hx := 5) (hi := 4) (by decide) (by decide) (hi_of (hx := 5) (by decide) (by decide))
  cases e1 : pN b l (te b l p) 0 5 with
  | inl e =>
    rw [e1] at k1
    refine zOk.bd2 k1 (fun r s he => ?_)
    have he : mE σ0 s e := he
    rw [m_fineE he.ne, Option.bind_some, if_pos rfl]
    exact ⟨_, rfl, he⟩
  | inr w1 =>
    rw [e1] at k1
    refine zOk.bd2 k1 (fun r s2 hk => ?_)
    obtain ⟨rfl, -, b1, h2⟩ : r = nI w1.1 ∧ 0 ≤ w1.1 ∧ w1.1 < 5 ∧ mOk b l σ0 s2 A n m w1.2 := hk
    obtain ⟨l1, l2, l3, l4⟩ := sLoHi w1.1 b1
    obtain ⟨-, c1, c2⟩ := hKn w1.1 b1
    rw [m_fine1 h2.2.1, Option.bind_some, if_neg (by decide), if_pos (inb_n b1 (by decide)), if_pos (inb_n b1 (by decide)), nI_clamp (by omega), h2.1 4 87 w1.1 (by omega), h2.1 4 88 w1.1 (by omega), c1, c2, l1, l2]
    have k2 := m_num h2 (lo := sLo w1.1) (hx := sHi w1.1) (by omega) (by omega) (hi_of (hx := sHi w1.1) (by omega) (by omega))
    show zOk _ (fun s => mR b l σ0 s (eb (pN b l w1.2 (sLo w1.1) (sHi w1.1)) _))
    cases e2 : pN b l w1.2 (sLo w1.1) (sHi w1.1) with
    | inl e =>
      rw [e2] at k2
      refine zOk.bd2 k2 (fun r s he => ?_)
      have he : mE σ0 s e := he
      rw [if_pos (inb_n (show w1.1 < 2592 by omega) (by decide))]
      refine ⟨_, rfl, he.1.tr (fun g o i q => by rw [zst_at, if_neg (by omega)]), ?_, he.2.2.1, he.2.2.2.1, ?_⟩
      · rw [zst_at, if_neg (by omega)]; exact he.2.1
      · rw [zst_at, if_neg (by omega)]; exact he.2.2.2.2
    | inr w2 =>
      rw [e2] at k2
      refine zOk.bd2 k2 (fun r s3 hk => ?_)
      obtain ⟨rfl, b2, b3, h3⟩ : r = nI w2.1 ∧ sLo w1.1 ≤ w2.1 ∧ w2.1 < sHi w1.1 ∧ mOk b l σ0 s3 A n m w2.2 := hk
      rw [if_pos (inb_n (show w1.1 < 2592 by omega) (by decide))]
      exact ⟨_, rfl, h3.up (zfM.a81 s3 w1.1 (nI w2.1)) (h3.2.2.2.2.2.2.1.ps (by omega) _) (aInv_set h3.2.2.2.2.2.2.2 b1 (by rw [l2]; exact nI_le (by omega) (by omega)) (by omega))⟩
theorem m_pseed (h : mOk b l σ0 σ A n m p) : zOk (F_Model_parseSeed σ) (fun s => mR b l σ0 s (pSeed b l A n m p)) := by
  rw [F_Model_parseSeed]
  unfold pSeed
  refine zOk.bind (m_adv h) (fun s1 h1 => ?_)
  have k1 := m_num h1 (lo := 0) (hx := 1000003) (hi := 1000002) (by decide) (by decide) (hi_of (hx := 1000003) (by decide) (by decide))
  cases e1 : pN b l (te b l p) 0 1000003 with
  | inl e =>
    rw [e1] at k1
    refine zOk.bd2 k1 (fun r s he => ?_)
    have he : mE σ0 s e := he
    rw [m_fineE he.ne, Option.bind_some, if_pos rfl]
    exact ⟨_, rfl, he⟩
  | inr w =>
    rw [e1] at k1
    refine zOk.bd2 k1 (fun r s2 hk => ?_)
    obtain ⟨rfl, -, b1, h2⟩ : r = nI w.1 ∧ 0 ≤ w.1 ∧ w.1 < 1000003 ∧ mOk b l σ0 s2 A n m w.2 := hk
    rw [m_fine1 h2.2.1, Option.bind_some, if_neg (by decide)]
    exact ⟨_, rfl, h2.up (zfM.a81 s2 9 (nI w.1)) (h2.2.2.2.2.2.2.1.ps (by decide) _) (aInv_x h2.2.2.2.2.2.2.2 b1)⟩
theorem m_pnews (h : mOk b l σ0 σ A n m p) : zOk (F_Model_parseNews σ) (fun s => mR b l σ0 s (if tW b l p 5 = true then pNews b l A n m p else .inl (1, ts b l p))) := by
  have hm := h.2.2.2.2.2.2.2.1.2.2.2
  have hn := h.2.2.2.2.2.2.2.1.2.2.1
  rw [F_Model_parseNews, show F_Model_isWord 11 σ = some (bI (tW b l p 5)) from m_word h.2.2.2.1 h.2.2.2.2.1.1 h.2.2.2.2.1.2.1 h.2.2.2.2.2.1 (i := 5) (by decide), Option.bind_some]
  have tailE : ∀ (s : zSt) (e : pE) (y : Int32), mE σ0 s e → B_Model_parseNews_29 y s = some s := fun s e y he => by
    simp only [B_Model_parseNews_29, m_reqE he.ne, m_advE he.ne, m_numE he.ne, m_fineE he.ne, bd2_some, Option.bind_some, z00, if_true]
  by_cases w : tW b l p 5 = true
  · rw [if_pos w, show bI (tW b l p 5) = 1 from bI_1 w, m_req1, Option.bind_some]
    have e7 : σ.1 4 81 7 = nI m := (h.2.2.2.2.2.2.1.sc (by decide)).trans h.2.2.2.2.2.2.2.1.2.1
    rw [e7]
    unfold pNews
    by_cases q : m < 20
    · rw [if_neg (show ¬ (20 : Int32) ≤ nI m from nI_ge (b := 20) q (by decide)), if_neg (by omega), B_Model_parseNews_29, m_req1, Option.bind_some]
      refine zOk.bind (m_adv h) (fun s1 h1 => ?_)
      have hI := h1.2.2.2.2.2.2.2
      rw [h1.2.2.2.2.2.2.1.sc (by decide), hI.1.1]
      have hid : ∀ v, v < 200000000 → (nI v ≤ nI n - 1 ↔ v < n) := by
        by_cases z : 0 < n
        · rw [show nI n - 1 = nI (n - 1) from pk_sub (b := 1) (by omega)]
          exact hi_of z (by omega)
        · intro v hv
          have : n = 0 := by omega
          subst this
          constructor
          · intro y
            exfalso
            rw [Int32.le_iff_toInt_le, nI_toInt (by omega)] at y
            have : (nI 0 - 1).toInt = -1 := by decide
            omega
          · intro y; omega
      have k1 := m_num h1 (lo := 0) (hx := n) (by decide) (by omega) hid
      cases e1 : pN b l (te b l p) 0 n with
      | inl e =>
        rw [e1] at k1
        refine zOk.bd2 k1 (fun r s he => ?_)
        have he : mE σ0 s e := he
        simp only [m_numE he.ne, m_fineE he.ne, bd2_some, Option.bind_some, z00, if_true]
        exact ⟨_, rfl, he⟩
      | inr w1 =>
        rw [e1] at k1
        refine zOk.bd2 k1 (fun r s2 hk => ?_)
        obtain ⟨rfl, -, b1, h2⟩ : r = nI w1.1 ∧ 0 ≤ w1.1 ∧ w1.1 < n ∧ mOk b l σ0 s2 A n m w1.2 := hk
        have k2 := m_num h2 (lo := 0) (hx := 100) (hi := 99) (by decide) (by decide) (hi_of (hx := 100) (by decide) (by decide))
        show zOk _ (fun s => mR b l σ0 s (eb (pN b l w1.2 0 100) _))
        cases e2 : pN b l w1.2 0 100 with
        | inl e =>
          rw [e2] at k2
          refine zOk.bd2 k2 (fun r s he => ?_)
          have he : mE σ0 s e := he
          rw [m_fineE he.ne, Option.bind_some, if_pos rfl]
          exact ⟨_, rfl, he⟩
        | inr w2 =>
          rw [e2] at k2
          refine zOk.bd2 k2 (fun r s3 hk => ?_)
          obtain ⟨rfl, -, b2, h3⟩ : r = nI w2.1 ∧ 0 ≤ w2.1 ∧ w2.1 < 100 ∧ mOk b l σ0 s3 A n m w2.2 := hk
          rw [m_fine1 h3.2.1, Option.bind_some, if_neg (by decide)]
          exact zOk.bd2 (m_appendNews h3.2.2.2.2.2.2.1 h3.2.2.2.2.2.2.2.1.2.1 q (show w1.1 < 12 by omega) (nI w2.1)) (fun r s' ⟨g1, g2, g3⟩ => ⟨_, rfl, h3.up g3 g2 (aInv_tell h3.2.2.2.2.2.2.2 q b1)⟩)
    · rw [if_pos (show (20 : Int32) ≤ nI m from nI_le (a := 20) (by omega) (by omega)), if_pos (by omega), B_Model_parseNews_29]
      refine zOk.bind (m_req0 h (k := 3) (by decide) (by decide)) (fun s he => ?_)
      simp only [m_advE he.ne, m_numE he.ne, m_fineE he.ne, bd2_some, Option.bind_some, z00, if_true]
      exact ⟨_, rfl, he⟩
  · rw [if_neg w, bI_f (by simpa using w)]
    refine zOk.bind (m_req0 h (k := 1) (by decide) (by decide)) (fun s he => ?_)
    split
    · rw [tailE s _ _ he]; exact ⟨_, rfl, he⟩
    · rw [tailE s _ _ he]; exact ⟨_, rfl, he⟩
theorem m_stm (hKn : zKn σ0) (h : mOk b l σ0 σ A n m p) : zOk (F_Model_parseStatement σ) (fun s => mR b l σ0 s (pStm b l (A, n, m, p))) := by
  have wds : ∀ i, i < 6 → F_Model_isWord (i + 6) σ = some (bI (tW b l p i)) := fun i hi => m_word h.2.2.2.1 h.2.2.2.2.1.1 h.2.2.2.2.1.2.1 h.2.2.2.2.2.1 hi
  rw [F_Model_parseStatement]
  unfold pStm pOne
  show zOk _ (fun s => mR b l σ0 s (eb (if tW b l p 1 = true then pHouse b l A n m p else if tW b l p 3 = true then pSet b l A n m p else if tW b l p 4 = true then pSeed b l A n m p else if tW b l p 5 = true then pNews b l A n m p else .inl (1, ts b l p)) (pEnd b l)))
  rw [show F_Model_isWord 7 σ = some (bI (tW b l p 1)) from wds 1 (by decide), Option.bind_some]
  by_cases y1 : tW b l p 1 = true
  · rw [if_neg (bI_ne y1), if_pos y1]
    exact zOk.bind (m_house h) (fun s g => zOk.bind (m_tail g) (fun s2 g2 => ⟨_, rfl, g2⟩))
  · rw [if_pos (bI_f (by simpa using y1)), if_neg y1, show F_Model_isWord 9 σ = some (bI (tW b l p 3)) from wds 3 (by decide), Option.bind_some]
    by_cases y3 : tW b l p 3 = true
    · rw [if_neg (bI_ne y3), if_pos y3]
      exact zOk.bind (m_pset hKn h) (fun s g => zOk.bind (m_tail g) (fun s2 g2 => ⟨_, rfl, g2⟩))
    · rw [if_pos (bI_f (by simpa using y3)), if_neg y3, show F_Model_isWord 10 σ = some (bI (tW b l p 4)) from wds 4 (by decide), Option.bind_some]
      by_cases y4 : tW b l p 4 = true
      · rw [if_neg (bI_ne y4), if_pos y4]
        exact zOk.bind (m_pseed h) (fun s g => zOk.bind (m_tail g) (fun s2 g2 => ⟨_, rfl, g2⟩))
      · rw [if_pos (bI_f (by simpa using y4)), if_neg y4]
        exact zOk.bind (m_pnews h) (fun s g => zOk.bind (m_tail g) (fun s2 g2 => ⟨_, rfl, g2⟩))
theorem m_loop (hKn : zKn σ0) {Q : Int32 × zSt → Prop} : ∀ d k j (q : pS) (s : zSt), k + d = 700 → k ≤ q.2.2.2 → mOk b l σ0 s q.1 q.2.1 q.2.2.1 q.2.2.2 → d + 2 < j → (∀ j' s', mR b l σ0 s' (pLoop b l d q) → zOk (L_Model_load (j' + 1) 1 s') Q) → zOk (L_Model_load j 0 s) Q := by
  intro d
  induction d with
  | zero =>
    intro k j q s hk hkp h hj kk
    obtain ⟨j, rfl⟩ : ∃ q, j = q + 2 := ⟨j - 2, by omega⟩
    have l7 := h.2.2.2.2.1.1
    have pl := h.2.2.2.1
    have ts1 := ts_in (b := b) pl
    have z : tk b l q.2.2.2 = 0 := by
      unfold tk
      rw [if_pos (by omega)]
    rw [e_Model_load_0, m_fine1 h.2.1, Option.bind_some, if_neg (by decide), h.2.2.2.2.2.1.2.2.1, z, if_pos (show nI (mKd 0) = (0 : Int32) from rfl)]
    exact kk j s h
  | succ d ih =>
    intro k j q s hk hkp h hj kk
    obtain ⟨j, rfl⟩ : ∃ q, j = q + 2 := ⟨j - 2, by omega⟩
    rw [e_Model_load_0, m_fine1 h.2.1, Option.bind_some, if_neg (by decide), h.2.2.2.2.2.1.2.2.1]
    have e0 : nI (mKd (tk b l q.2.2.2)) = (0 : Int32) ↔ tk b l q.2.2.2 = 0 := mKd_is (k := 0) (j := 0) (by decide)
    rw [pLoop] at kk
    by_cases z : tk b l q.2.2.2 = 0
    · rw [if_pos (e0.mpr z)]
      rw [if_pos z] at kk
      exact kk j s h
    · rw [if_neg (fun y => z (e0.mp y))]
      rw [if_neg z] at kk
      refine zOk.bind (m_stm hKn h) (fun s2 g => ?_)
      have g : mR b l σ0 s2 (pStm b l q) := g
      cases e : pStm b l q with
      | inl er =>
        rw [e] at g kk
        have g : mE σ0 s2 er := g
        rw [e_Model_load_0, m_fineE g.ne, Option.bind_some, if_pos rfl]
        obtain ⟨j, rfl⟩ : ∃ q, j = q + 1 := ⟨j - 1, by omega⟩
        exact kk j s2 g
      | inr q2 =>
        rw [e] at g kk
        have step : q.2.2.2 < q2.2.2.2 := by
          unfold pStm at e
          obtain ⟨r, e1, e2⟩ := eb_r e
          have a1 := pOne_le e1 h.2.2.2.1
          have a2 := pEnd_lt e2 a1.2
          omega
        exact ih (k + 1) (j + 1) q2 s2 (by omega) (by omega) g (by omega) kk
end PM
