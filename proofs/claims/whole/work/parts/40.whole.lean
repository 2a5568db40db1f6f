/-! the whole state: what holds between two calls -/
def zfX (σ σ' : zSt) : Prop := (∀ g o i, g ≠ 0 → g ≠ 1 → σ'.1 g o i = σ.1 g o i) ∧ σ'.2 = σ.2
def zfN (σ σ' : zSt) : Prop := (∀ g o i, (g ≠ 4 ∨ (o ≠ 80 ∧ o ≠ 81 ∧ o ≠ 82 ∧ o ≠ 83 ∧ o ≠ 90)) → σ'.1 g o i = σ.1 g o i) ∧ (∀ i, i < 20 → i ≠ 8 → σ'.1 4 80 i = σ.1 4 80 i) ∧ σ'.2 = σ.2
theorem zfX.rf (σ : zSt) : zfX σ σ := ⟨fun _ _ _ _ _ => rfl, rfl⟩
theorem zfX.tr {σ σ2 σ3 : zSt} (h : zfX σ σ2) (h2 : zfX σ2 σ3) : zfX σ σ3 := ⟨fun g o i a b => (h2.1 g o i a b).trans (h.1 g o i a b), h2.2.trans h.2⟩
theorem zfX.v0 {σ σ' : zSt} (h : zfV 0 σ σ') : zfX σ σ' := ⟨fun g o i a _ => h.1 g o i a, h.2⟩
theorem zfX.v1 {σ σ' : zSt} (h : zfV 1 σ σ') : zfX σ σ' := ⟨fun g o i _ b => h.1 g o i b, h.2⟩
theorem zfX.c0 {σ σ' : zSt} {v b : Nat} (h : zCo σ 0 v b σ') : zfX σ σ' := ⟨fun g o i a _ => h.2.1 g o i a, h.2.2⟩
theorem zfX.c1 {σ σ' : zSt} {v b : Nat} (h : zCo σ 1 v b σ') : zfX σ σ' := ⟨fun g o i _ b => h.2.1 g o i b, h.2.2⟩
theorem zfN.rf (σ : zSt) : zfN σ σ := ⟨fun _ _ _ _ => rfl, fun _ _ _ => rfl, rfl⟩
theorem zfN.tr {σ σ2 σ3 : zSt} (h : zfN σ σ2) (h2 : zfN σ2 σ3) : zfN σ σ3 := ⟨fun g o i a => (h2.1 g o i a).trans (h.1 g o i a), fun i a b => (h2.2.1 i a b).trans (h.2.1 i a b), h2.2.2.trans h.2.2⟩
theorem zfN.m {σ σ' : zSt} (h : zfM σ σ') : zfN σ σ' := ⟨fun g o i q => h.1 g o i (by omega), fun i a _ => h.2.1 i a, h.2.2⟩
theorem zfN.t8 (σ : zSt) (x : Int32) : zfN σ (zst σ 4 80 8 x) := ⟨fun g o i q => by rw [zst_at, if_neg (by omega)], fun i a b => by rw [zst_at, if_neg (by omega)], rfl⟩
theorem zC_fr {σ σ' : zSt} {v n m T : Nat} {A : zAb} {c : Int32} (hC : zC σ v A n m c T) (h : ∀ o i, σ'.1 v o i = σ.1 v o i) : zC σ' v A n m c T := by
  have e : σ'.1 v = σ.1 v := funext fun o => funext fun i => h o i
  unfold zC zVr v1 v2 v3 v4 v5 v6 v7 at *
  rw [e]
  exact hC
/-- the two slots -/
def zSv (σ : zSt) (K : Nat) : Prop := ∀ s, s < 2 → (((σ.1 4 70 4 >>> (nI s &&& 31)) &&& 1) = 0 ↔ σ.1 4 85 s = 0) ∧ (¬ σ.1 4 85 s = 0 → ∃ (A : zAb) (n m : Nat) (c : Int32) (T : Nat), T ≤ K ∧ zC σ (2 + s) A n m c T ∧ zMo (fun i => σ.1 4 84 (2592 * s + i)) A)
/-- the texts -/
def zTb (σ : zSt) (l : Nat) : Prop := l ≤ 700 ∧ σ.1 4 72 1 = nI l ∧ σ.1 4 80 10 = nI l ∧ (∀ i, i < l → σ.1 4 89 i = σ.1 4 74 i ∧ ∃ b, b < 256 ∧ σ.1 4 74 i = nI b)
def zTx (σ : zSt) : Prop := (∃ l, zTb σ l) ∧ σ.1 4 80 16 = σ.1 4 71 1 ∧ σ.1 4 80 17 = σ.1 4 71 2
def zKn (σ : zSt) : Prop := ∀ i, i < 5 → σ.1 4 86 i = (zfv 0).getD i 0 ∧ σ.1 4 87 i = (zfv 1).getD i 0 ∧ σ.1 4 88 i = (zfv 2).getD i 0
def zJp (σ : zSt) (K : Nat) : Prop := zSv σ K ∧ zTx σ ∧ zKn σ
def zJ (σ : zSt) (K : Nat) : Prop := ∃ (A : zAb) (n m : Nat) (c : Int32) (T : Nat), T ≤ K ∧ zC σ 0 A n m c T ∧ zMr σ A ∧ zJp σ K
theorem zSv.fr {σ σ' : zSt} {K K' : Nat} (h : zSv σ K) (hK : K ≤ K') (e70 : σ'.1 4 70 4 = σ.1 4 70 4) (e85 : ∀ i, σ'.1 4 85 i = σ.1 4 85 i) (e84 : ∀ i, σ'.1 4 84 i = σ.1 4 84 i) (e : ∀ g o i, g = 2 ∨ g = 3 → σ'.1 g o i = σ.1 g o i) : zSv σ' K' := by
  intro s hs
  obtain ⟨h1, h2⟩ := h s hs
  rw [e70, e85 s]
  refine ⟨h1, fun q => ?_⟩
  obtain ⟨A, n, m, c, T, a, b, d⟩ := h2 q
  refine ⟨A, n, m, c, T, by omega, zC_fr b (fun o i => e (2 + s) o i (by omega)), ?_⟩
  have e2 : (fun i => σ'.1 4 84 (2592 * s + i)) = (fun i => σ.1 4 84 (2592 * s + i)) := funext fun i => e84 _
  rw [e2]
  exact d
theorem zTb.fr {σ σ' : zSt} {l : Nat} (h : zTb σ l) (e1 : σ'.1 4 72 1 = σ.1 4 72 1) (e2 : σ'.1 4 80 10 = σ.1 4 80 10) (e3 : ∀ i, σ'.1 4 89 i = σ.1 4 89 i) (e4 : ∀ i, σ'.1 4 74 i = σ.1 4 74 i) : zTb σ' l := by
  obtain ⟨h1, h2, h3, h4⟩ := h
  refine ⟨h1, e1.trans h2, e2.trans h3, fun i hi => ?_⟩
  rw [e3, e4]
  exact h4 i hi
theorem zJp.fr {σ σ' : zSt} {K K' : Nat} (h : zJp σ K) (hK : K ≤ K') (e : ∀ g o i, (g = 2 ∨ g = 3 ∨ (g = 4 ∧ (o = 70 ∨ o = 71 ∨ o = 72 ∨ o = 74 ∨ o = 84 ∨ o = 85 ∨ o = 86 ∨ o = 87 ∨ o = 88 ∨ o = 89 ∨ (o = 80 ∧ (i = 10 ∨ i = 16 ∨ i = 17))))) → σ'.1 g o i = σ.1 g o i) : zJp σ' K' := by
  obtain ⟨h1, ⟨⟨l, h2⟩, h3, h4⟩, h5⟩ := h
  refine ⟨h1.fr hK (e 4 70 4 (by omega)) (fun i => e 4 85 i (by omega)) (fun i => e 4 84 i (by omega)) (fun g o i q => e g o i (by omega)), ⟨⟨l, h2.fr (e 4 72 1 (by omega)) (e 4 80 10 (by omega)) (fun i => e 4 89 i (by omega)) (fun i => e 4 74 i (by omega))⟩, ?_, ?_⟩, fun i hi => ?_⟩
  · rw [e 4 80 16 (by omega), e 4 71 1 (by omega)]; exact h3
  · rw [e 4 80 17 (by omega), e 4 71 2 (by omega)]; exact h4
  · rw [e 4 86 i (by omega), e 4 87 i (by omega), e 4 88 i (by omega)]; exact h5 i hi
theorem zJ_mk {σ σ1 s2 s3 : zSt} {K K' n m T : Nat} {A : zAb} {c : Int32} (p : zJp σ K) (fx : zfX σ σ1) (es : s2.1 = σ1.1) (fn : zfN s2 s3) (hC : zC σ1 0 A n m c T) (hM : zMr s3 A) (hT : T ≤ K') (hK : K ≤ K') : zJ s3 K' := by
  refine ⟨A, n, m, c, T, hT, zC_fr hC (fun o i => by rw [fn.1 0 o i (Or.inl (by decide)), es]), hM, p.fr hK (fun g o i q => ?_)⟩
  have e2 : s2.1 g o i = σ.1 g o i := by
    rw [es]
    exact fx.1 g o i (by omega) (by omega)
  rw [← e2]
  by_cases z : g = 4 ∧ o = 80
  · obtain ⟨rfl, rfl⟩ := z
    exact fn.2.1 i (by omega) (by omega)
  · exact fn.1 g o i (by omega)
theorem zMr.s1 {σ σ' : zSt} {A : zAb} (h : zMr σ A) (e : σ'.1 = σ.1) : zMr σ' A := h.same (fun i => by rw [e]) (fun i _ => by rw [e])
theorem zMr.t8 {σ : zSt} {A : zAb} (h : zMr σ A) (x : Int32) : zMr (zst σ 4 80 8 x) A := h.q20 (by decide) x
theorem zJ.fr {σ σ' : zSt} {K K' : Nat} (J : zJ σ K) (hK : K ≤ K') (es : σ'.1 = σ.1) : zJ σ' K' := by
  obtain ⟨A, n, m, c, T, hT, hC, hM, p⟩ := J
  exact ⟨A, n, m, c, T, by omega, zC_fr hC (fun o i => by rw [es]), hM.s1 es, p.fr hK (fun g o i _ => by rw [es])⟩
theorem zJ.t8 {σ : zSt} {K : Nat} (J : zJ σ K) (x : Int32) : zJ (zst σ 4 80 8 x) K := by
  obtain ⟨A, n, m, c, T, hT, hC, hM, p⟩ := J
  exact zJ_mk p (zfX.rf σ) rfl (zfN.t8 σ x) hC (hM.t8 x) hT (Nat.le_refl K)
/-! a call of both: answers alike, the state kept -/
def zRI (K : Nat) (X : Option (Int32 × zSt)) (fm : zSt → Option (Int32 × zSt)) : Prop := zOk X (fun q => zOk (fm q.2) (fun p => zJ p.2 K ∧ p.2.1 4 80 8 = q.1 ∧ (q.1 = 0 → p.2.2.1 95 = p.1.toInt64)))
def zRV (K : Nat) (X : Option (Int32 × zSt)) (fm : zSt → Option zSt) : Prop := zOk X (fun q => zOk (fm q.2) (fun s => zJ s K ∧ s.1 4 80 8 = q.1))
def zR0 (K : Nat) (X : Option (Int32 × zSt)) (fm : zSt → Option (Int32 × zSt)) : Prop := zOk X (fun q => zOk (fm q.2) (fun p => zJ p.2 K ∧ q.1 = p.1))
theorem zsl_95 (σ : zSt) (x : Int64) : (zsl σ 95 x).2.1 95 = x := by
  show (if (95 : Nat) = 95 then x else σ.2.1 95) = x
  exact if_pos rfl
theorem zst_8 (σ : zSt) (x : Int32) : (zst σ 4 80 8 x).1 4 80 8 = x := by rw [zst_at, if_pos ⟨rfl, rfl, rfl⟩]
theorem zRI.ok {σ σ1 : zSt} {K K' n m T : Nat} {A A' : zAb} {c r : Int32} {X : Option (Int32 × zSt)} {fm : zSt → Option (Int32 × zSt)} (p : zJp σ K) (hM : zMr σ A) (hX : X = some (0, zsl σ1 95 r.toInt64)) (fx : zfX σ σ1) (hC : zC σ1 0 A' n m c T) (hT : T ≤ K') (hK : K ≤ K')
    (hm : ∀ s, zMr s A → s.1 = σ1.1 → zOk (fm s) (fun q => q.1 = r ∧ zMr q.2 A' ∧ zfN s q.2 ∧ q.2.1 4 80 8 = 0)) : zRI K' X fm := by
  refine ⟨_, hX, ?_⟩
  have hM1 : zMr (zsl σ1 95 r.toInt64) A := hM.same (fun i => fx.1 4 81 i (by decide) (by decide)) (fun i _ => fx.1 4 80 i (by decide) (by decide))
  obtain ⟨q, hq, h1, h2, h3, h4⟩ := hm _ hM1 rfl
  refine ⟨q, hq, zJ_mk (s2 := zsl σ1 95 r.toInt64) p fx rfl h3 hC h2 hT hK, h4, fun _ => ?_⟩
  rw [h3.2.2, h1]
  exact zsl_95 _ _
theorem zRI.qry {σ : zSt} {K : Nat} {A : zAb} {r : Int32} {X : Option (Int32 × zSt)} {fm : zSt → Option (Int32 × zSt)} (J : zJ σ K) (hM : zMr σ A) (hX : X = some (0, zsl σ 95 r.toInt64)) (hm : ∀ s, zMr s A → s.1 = σ.1 → fm s = some (r, zst s 4 80 8 0)) : zRI K X fm := by
  have e : (zsl σ 95 r.toInt64).1 = σ.1 := rfl
  exact ⟨_, hX, _, hm _ (hM.s1 e) e, (J.fr (Nat.le_refl K) e).t8 0, zst_8 _ _, fun _ => zsl_95 _ _⟩
theorem zRI.no {σ : zSt} {K : Nat} {A : zAb} {k : Int32} {X : Option (Int32 × zSt)} {fm : zSt → Option (Int32 × zSt)} (J : zJ σ K) (hM : zMr σ A) (hX : X = some (k, σ)) (hk : ¬ k = 0) (hm : ∀ s, zMr s A → s.1 = σ.1 → fm s = some (0, zst (zst s 4 80 8 0) 4 80 8 k)) : zRI K X fm :=
  ⟨_, hX, _, hm _ hM rfl, (J.t8 0).t8 k, zst_8 _ _, fun h => absurd h hk⟩
theorem zRV.no {σ : zSt} {K : Nat} {A : zAb} {k : Int32} {X : Option (Int32 × zSt)} {fm : zSt → Option zSt} (J : zJ σ K) (hM : zMr σ A) (hX : X = some (k, σ)) (hm : ∀ s, zMr s A → s.1 = σ.1 → fm s = some (zst s 4 80 8 k)) : zRV K X fm :=
  ⟨_, hX, _, hm _ hM rfl, J.t8 k, zst_8 _ _⟩
theorem zRV.ok {σ σ1 : zSt} {K K' n m T : Nat} {A A' : zAb} {c : Int32} {X : Option (Int32 × zSt)} {fm : zSt → Option zSt} (p : zJp σ K) (hM : zMr σ A) (hX : X = some (0, σ1)) (fx : zfX σ σ1) (hC : zC σ1 0 A' n m c T) (hT : T ≤ K') (hK : K ≤ K')
    (hm : ∀ s, zMr s A → s.1 = σ1.1 → zOk (fm s) (fun q => zMr q A' ∧ zfN s q ∧ q.1 4 80 8 = 0)) : zRV K' X fm := by
  refine ⟨_, hX, ?_⟩
  have hM1 : zMr σ1 A := hM.same (fun i => fx.1 4 81 i (by decide) (by decide)) (fun i _ => fx.1 4 80 i (by decide) (by decide))
  obtain ⟨q, hq, h2, h3, h4⟩ := hm _ hM1 rfl
  exact ⟨q, hq, zJ_mk p fx rfl h3 hC h2 hT hK, h4⟩
theorem zR0.ok {σ σ1 : zSt} {K K' n m T : Nat} {A A' : zAb} {c r : Int32} {X : Option (Int32 × zSt)} {fm : zSt → Option (Int32 × zSt)} (p : zJp σ K) (hM : zMr σ A) (hX : X = some (r, σ1)) (fx : zfX σ σ1) (hC : zC σ1 0 A' n m c T) (hT : T ≤ K') (hK : K ≤ K')
    (hm : ∀ s, zMr s A → s.1 = σ1.1 → zOk (fm s) (fun q => q.1 = r ∧ zMr q.2 A' ∧ zfN s q.2)) : zR0 K' X fm := by
  refine ⟨_, hX, ?_⟩
  have hM1 : zMr σ1 A := hM.same (fun i => fx.1 4 81 i (by decide) (by decide)) (fun i _ => fx.1 4 80 i (by decide) (by decide))
  obtain ⟨q, hq, h1, h2, h3⟩ := hm _ hM1 rfl
  exact ⟨q, hq, zJ_mk p fx rfl h3 hC h2 hT hK, h1.symm⟩
theorem zRI.up {K K' : Nat} {X : Option (Int32 × zSt)} {fm : zSt → Option (Int32 × zSt)} (h : zRI K X fm) (hK : K ≤ K') : zRI K' X fm :=
  h.mono (fun _ a => a.mono (fun _ b => ⟨b.1.fr hK rfl, b.2⟩))
theorem zRV.up {K K' : Nat} {X : Option (Int32 × zSt)} {fm : zSt → Option zSt} (h : zRV K X fm) (hK : K ≤ K') : zRV K' X fm :=
  h.mono (fun _ a => a.mono (fun _ b => ⟨b.1.fr hK rfl, b.2⟩))
theorem zR0.up {K K' : Nat} {X : Option (Int32 × zSt)} {fm : zSt → Option (Int32 × zSt)} (h : zR0 K X fm) (hK : K ≤ K') : zR0 K' X fm :=
  h.mono (fun _ a => a.mono (fun _ b => ⟨b.1.fr hK rfl, b.2⟩))
/-! what is tested first -/
def zBt (a l h : Int32) : Bool := !decide (a < l) && !decide (h < a)
theorem zBt_t {a l h : Int32} (q : zBt a l h = true) : ¬ a < l ∧ ¬ h < a := by
  unfold zBt at q
  simpa using q
theorem zBt_f {a l h : Int32} (q : zBt a l h = false) : a < l ∨ h < a := by
  unfold zBt at q
  by_cases c : a < l
  · exact Or.inl c
  · simp [c] at q
    exact Or.inr q
theorem x_in1 {a l h : Int32} (q : zBt a l h = true) (σ : zSt) : F_Waves_checkWithin a l h σ = some (.inl ()) := by
  obtain ⟨q1, q2⟩ := zBt_t q
  rw [F_Waves_checkWithin, if_neg q1, if_pos (Int32.not_lt.mp q2)]
theorem x_in0 {a l h : Int32} (q : zBt a l h = false) (σ : zSt) : F_Waves_checkWithin a l h σ = some (.inr "java/lang/IllegalArgumentException") := by
  rw [F_Waves_checkWithin]
  rcases zBt_f q with q1 | q1
  · rw [if_pos q1]
  · by_cases c : a < l
    · rw [if_pos c]
    · rw [if_neg c, if_neg (Int32.not_le.mpr q1)]
theorem m_in1 {a l h : Int32} (q : zBt a l h = true) (σ : zSt) : F_Model_isBetween a l h σ = some 1 := by
  obtain ⟨q1, q2⟩ := zBt_t q
  rw [F_Model_isBetween, if_neg q1, if_neg q2]
theorem m_in0 {a l h : Int32} (q : zBt a l h = false) (σ : zSt) : F_Model_isBetween a l h σ = some 0 := by
  rw [F_Model_isBetween]
  rcases zBt_f q with q1 | q1
  · rw [if_pos q1]
  · by_cases c : a < l
    · rw [if_pos c]
    · rw [if_neg c, if_pos q1]
theorem z_idx (a : Int32) {n : Nat} (hn : n < 2 ^ 31) : (∃ h, h < n ∧ a = nI h) ∨ (a < 0 ∨ nI n ≤ a) := by
  rcases pk_ix a hn with h | h | h
  · exact Or.inr (Or.inl h)
  · exact Or.inr (Or.inr h)
  · exact Or.inl h
theorem z_rng {a : Int32} {lo hi : Nat} (h : zBt a (nI lo) (nI hi) = true) (hh : hi < 2 ^ 31) (hl : lo < 2 ^ 31) : ∃ k, lo ≤ k ∧ k ≤ hi ∧ a = nI k := by
  obtain ⟨h1, h2⟩ := zBt_t h
  have t1 := nI_toInt hl
  have t2 := nI_toInt hh
  have l1 : (nI lo).toInt ≤ a.toInt := Int32.le_iff_toInt_le.mp (Int32.not_lt.mp h1)
  have l2 : a.toInt ≤ (nI hi).toInt := Int32.le_iff_toInt_le.mp (Int32.not_lt.mp h2)
  have h0 : ¬ a < 0 := by
    rw [Int32.lt_iff_toInt_lt]
    have : (0 : Int32).toInt = 0 := by decide
    omega
  obtain ⟨j, hj, rfl⟩ := nI_of h0
  rw [nI_toInt hj] at l1 l2
  exact ⟨j, by omega, by omega, rfl⟩
theorem zBt_n {k lo hi : Nat} (h1 : lo ≤ k) (h2 : k ≤ hi) (hh : hi < 2 ^ 31) : zBt (nI k) (nI lo) (nI hi) = true := by
  unfold zBt
  simp [nI_nlt h1 (by omega), nI_nlt h2 hh]
section CW
variable {σ : zSt} {A : zAb} {n m T : Nat} {c : Int32}
theorem zC.hn (hC : zC σ 0 A n m c T) : n ≤ 12 := hC.2.2.1.1.2.2.1
theorem zC.hm (hC : zC σ 0 A n m c T) : m ≤ 20 := hC.2.2.1.1.2.2.2
theorem x_h1 (hC : zC σ 0 A n m c T) {h : Nat} (hh : h < n) : F_Waves_checkHouse (nI h) σ = some (.inl ()) := by
  have hn := hC.hn
  rw [F_Waves_checkHouse, if_neg (nI_pos (by omega)), hC.1.1.2.2.2.2.1, if_pos (nI_lt hh (by omega))]
theorem x_h0 (hC : zC σ 0 A n m c T) {a : Int32} (ha : a < 0 ∨ nI n ≤ a) : F_Waves_checkHouse a σ = some (.inr "java/lang/IndexOutOfBoundsException") := by
  rw [F_Waves_checkHouse, hC.1.1.2.2.2.2.1]
  by_cases q : a < 0
  · rw [if_pos q]
  · rcases ha with h | h
    · exact absurd h q
    · rw [if_neg q, if_neg (Int32.not_lt.mpr h)]
theorem x_w1 (hC : zC σ 0 A n m c T) {h : Nat} (hh : h < m) : F_Waves_checkNews (nI h) σ = some (.inl ()) := by
  have hn := hC.hm
  rw [F_Waves_checkNews, if_neg (nI_pos (by omega)), hC.1.1.2.2.2.2.2.1, if_pos (nI_lt hh (by omega))]
theorem x_w0 (hC : zC σ 0 A n m c T) {a : Int32} (ha : a < 0 ∨ nI m ≤ a) : F_Waves_checkNews a σ = some (.inr "java/lang/IndexOutOfBoundsException") := by
  rw [F_Waves_checkNews, hC.1.1.2.2.2.2.2.1]
  by_cases q : a < 0
  · rw [if_pos q]
  · rcases ha with h | h
    · exact absurd h q
    · rw [if_neg q, if_neg (Int32.not_lt.mpr h)]
end CW
