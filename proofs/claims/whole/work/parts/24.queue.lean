/-! the queue of a house -/
def zTm (x : Int32) : Prop := ∃ t, t < 2 ^ 30 ∧ x = nI t
theorem zTm.c {x y : Int32} (hx : zTm x) (hy : zTm y) : (x - y < 0 ↔ x < y) ∧ (x - y = 0 ↔ x = y) := by
  obtain ⟨a, ha, rfl⟩ := hx
  obtain ⟨b, hb, rfl⟩ := hy
  have e := pk_sub_toInt ha hb
  rw [nI_ltI (by omega) (by omega), nI_eq (by omega) (by omega), Int32.lt_iff_toInt_lt, ← Int32.toInt_inj, e]
  simp only [Int32.toInt_zero]
  omega
def aTm (A : zAb) (h e : Nat) : Int32 := if e % 2 = 1 then A 11 h (e / 2) else A 8 h (e / 2)
def aAh (A : zAb) (h a b : Nat) : Prop := (a % 2 = 1 ∧ b % 2 = 0) ∨ (a % 2 = b % 2 ∧ ((aTm A h a).toInt < (aTm A h b).toInt ∨ ((aTm A h a).toInt = (aTm A h b).toInt ∧ a < b)))
theorem aAh_tr {A : zAb} {h a b c : Nat} (h1 : aAh A h a b) (h2 : aAh A h b c) : aAh A h a c := by
  unfold aAh at *
  omega
theorem aAh_tot {A : zAb} {h a b : Nat} (h1 : a ≠ b) (h2 : ¬ aAh A h a b) : aAh A h b a := by
  unfold aAh at *
  omega
theorem aAh_ir {A : zAb} {h a : Nat} : ¬ aAh A h a a := by
  unfold aAh
  omega
/-- the queue as it lies: its places, how many, which, and how many corrections -/
def zQu (σ : zSt) (A : zAb) (h : Nat) (q : Nat → Nat) (L c : Nat) (S : Nat → Prop) : Prop :=
  σ.1 4 80 20 = nI L ∧ (∀ i, i < L → σ.1 4 90 i = nI (q i) ∧ q i < 40) ∧ (∀ i j, i < j → j < L → aAh A h (q i) (q j)) ∧ (∀ e, S e ↔ ∃ i, i < L ∧ q i = e) ∧ c ≤ L ∧ (∀ i, i < L → (q i % 2 = 1 ↔ i < c))
section MU
variable {σ : zSt} {A : zAb} {n m : Nat}
theorem m_isCorrection {e : Nat} (he : e < 2 ^ 31) : F_Model_isCorrection (nI e) σ = some (bI (decide (e % 2 = 1))) := by
  have k : nI (e % 2) = 1 ↔ e % 2 = 1 := nI_eq (b := 1) (by omega) (by decide)
  rw [F_Model_isCorrection, show (2 : Int32) = nI 2 from rfl, pk_rem he (by decide) (by decide)]
  by_cases c : e % 2 = 1
  · rw [if_pos (k.mpr c)]; simp [c, bI]
  · rw [if_neg (fun z => c (k.mp z))]; simp [c, bI]
theorem m_half {e : Nat} (he : e < 2 ^ 31) : nI e / (2 : Int32) = nI (e / 2) := pk_div (d := 2) he (by decide) (by decide)
theorem m_timeOf (hM : zMr σ A) {h e : Nat} (hh : h < 12) (he : e < 40) : F_Model_timeOf (nI h) (nI e) σ = some (aTm A h e) := by
  rw [F_Model_timeOf, m_isCorrection (by omega), Option.bind_some, m_half (by omega), m_pair5 hM hh (by omega), m_pair8 hM hh (by omega)]
  by_cases c : e % 2 = 1 <;> simp [c, bI, aTm]
theorem m_comesAhead (hM : zMr σ A) {h a b : Nat} (hh : h < 12) (ha : a < 40) (hb : b < 40) (ta : zTm (aTm A h a)) (tb : zTm (aTm A h b)) : zOk (F_Model_comesAhead (nI h) (nI a) (nI b) σ) (fun r => (r = 0 ↔ ¬ aAh A h a b)) := by
  obtain ⟨c1, c2⟩ := ta.c tb
  have k1 : aTm A h a < aTm A h b ↔ (aTm A h a).toInt < (aTm A h b).toInt := Int32.lt_iff_toInt_lt
  have k2 : aTm A h a = aTm A h b ↔ (aTm A h a).toInt = (aTm A h b).toInt := Int32.toInt_inj.symm
  rw [F_Model_comesAhead, m_isCorrection (by omega), m_isCorrection (by omega), m_timeOf hM hh ha, m_timeOf hM hh hb]
  simp only [Option.bind_some, c1, c2, k1, k2, nI_leI (show b < 2 ^ 31 by omega) (show a < 2 ^ 31 by omega)]
  unfold aAh
  refine zOk.ite (fun q => ?_) (fun q => ?_)
  · have q' : a % 2 = b % 2 := by
      by_cases x : a % 2 = 1 <;> by_cases y : b % 2 = 1 <;> simp [x, y, bI] at q <;> omega
    refine zOk.ite (fun q1 => ⟨_, rfl, ?_⟩) (fun q1 => zOk.ite (fun q2 => zOk.ite (fun q3 => ⟨_, rfl, ?_⟩) (fun q3 => ⟨_, rfl, ?_⟩)) (fun q2 => ⟨_, rfl, ?_⟩))
    · constructor
      · intro x; exact absurd x (by decide)
      · intro x; exfalso; apply x; omega
    · constructor
      · intro _; omega
      · intro _; rfl
    · constructor
      · intro x; exact absurd x (by decide)
      · intro x; exfalso; apply x; omega
    · constructor
      · intro _; omega
      · intro _; rfl
  · rw [if_pos (bI_01 _)]
    refine ⟨_, rfl, ?_⟩
    show bI (decide (a % 2 = 1)) = 0 ↔ _
    rw [bI_0]
    have q' : ¬ a % 2 = b % 2 := fun x => q (by rw [x])
    by_cases x : a % 2 = 1
    · simp only [x, decide_true, true_and]
      constructor
      · intro z; exact absurd z (by decide)
      · intro z; exfalso; apply z; omega
    · simp only [x, decide_false, true_iff]
      omega
theorem zQu.fr {s1 s2 : zSt} {h : Nat} {q : Nat → Nat} {L c : Nat} {S : Nat → Prop} (hQ : zQu s1 A h q L c S) (e1 : s2.1 4 80 20 = s1.1 4 80 20) (e2 : ∀ i, s2.1 4 90 i = s1.1 4 90 i) : zQu s2 A h q L c S :=
  ⟨e1.trans hQ.1, fun i hi => ⟨(e2 i).trans (hQ.2.1 i hi).1, (hQ.2.1 i hi).2⟩, hQ.2.2⟩
theorem m_enqueue (hM : zMr σ A) {h e : Nat} (hh : h < 12) (he : e < 40) {q : Nat → Nat} {L c : Nat} {S : Nat → Prop} (hL : L < 40) (hQ : zQu σ A h q L c S) (hS : ¬ S e) (hT : ∀ a, S a ∨ a = e → zTm (aTm A h a)) :
    zOk (F_Model_enqueue (nI h) (nI e) σ) (fun σ' => (∃ q', zQu σ' A h q' (L + 1) (if e % 2 = 1 then c + 1 else c) (fun a => S a ∨ a = e)) ∧ zMr σ' A ∧ zfM σ σ') := by
  obtain ⟨h20, hq, hso, hin, hc, hodd⟩ := hQ
  have hne : ∀ i, i < L → q i ≠ e := fun i hi x => hS ((hin e).mpr ⟨i, hi, x⟩)
  rw [F_Model_enqueue, h20]
  -- at a place p, walking down: below p the old queue, above it the old queue one further
  have key : ∀ p j s, p < j → p ≤ L → zMr s A → zfM σ s → s.1 4 80 20 = nI L → (∀ i, i < p → s.1 4 90 i = nI (q i)) → (∀ i, p ≤ i → i < L → s.1 4 90 (i + 1) = nI (q i)) → (∀ i, p ≤ i → i < L → aAh A h e (q i)) →
      zOk (L_Model_enqueue j 0 (nI h) (nI e) (nI p) s) (fun σ' => (∃ q', zQu σ' A h q' (L + 1) (if e % 2 = 1 then c + 1 else c) (fun a => S a ∨ a = e)) ∧ zMr σ' A ∧ zfM σ σ') := by
    have fin : ∀ p s, p ≤ L → zMr s A → zfM σ s → s.1 4 80 20 = nI L → (∀ i, i < p → s.1 4 90 i = nI (q i)) → (∀ i, p ≤ i → i < L → s.1 4 90 (i + 1) = nI (q i)) → (∀ i, p ≤ i → i < L → aAh A h e (q i)) → (∀ i, i < p → aAh A h (q i) e) →
        zOk (if inb (nI p) 40 = true then some (zst (zst s 4 90 (nI p).toNatClampNeg (nI e)) 4 80 20 (((zst s 4 90 (nI p).toNatClampNeg (nI e)).1 4 80 20) + (1 : Int32))) else none) (fun σ' => (∃ q', zQu σ' A h q' (L + 1) (if e % 2 = 1 then c + 1 else c) (fun a => S a ∨ a = e)) ∧ zMr σ' A ∧ zfM σ σ') := by
      intro p s hp hMs hf s20 lo hi ha hb
      rw [if_pos (inb_n (by omega) (by omega)), nI_clamp (by omega)]
      refine ⟨_, rfl, ⟨fun i => if i < p then q i else if i = p then e else q (i - 1), ?_, ?_, ?_, ?_, ?_, ?_⟩, (hMs.q90 _ _).q20 (by decide) _, (hf.tr (zfM.a90 _ _ _)).tr (zfM.a80 _ (by decide) _)⟩
      · rw [zst_at, if_pos ⟨rfl, rfl, rfl⟩, zst_at, if_neg (by omega), s20, nI_1]
      · intro i hi'
        rw [zst_at, if_neg (by omega), zst_at]
        by_cases c1 : i < p
        · rw [if_neg (by omega), lo i c1]
          simp only [if_pos c1]
          exact ⟨trivial, (hq i (by omega)).2⟩
        · by_cases c2 : i = p
          · rw [if_pos ⟨rfl, rfl, c2⟩]
            simp only [if_neg c1, if_pos c2]
            exact ⟨trivial, he⟩
          · obtain ⟨i', rfl⟩ : ∃ i', i = i' + 1 := ⟨i - 1, by omega⟩
            rw [if_neg (by omega), hi i' (by omega) (by omega)]
            simp only [if_neg c1, if_neg c2, Nat.add_sub_cancel]
            exact ⟨trivial, (hq i' (by omega)).2⟩
      · intro i j hij hj
        by_cases c1 : j < p
        · simp only [if_pos c1, if_pos (show i < p by omega)]
          exact hso i j hij (by omega)
        · by_cases c2 : j = p
          · simp only [if_neg c1, if_pos c2, if_pos (show i < p by omega)]
            exact hb i (by omega)
          · simp only [if_neg c1, if_neg c2]
            by_cases c3 : i < p
            · simp only [if_pos c3]
              exact hso i (j - 1) (by omega) (by omega)
            · by_cases c4 : i = p
              · simp only [if_neg c3, if_pos c4]
                exact ha (j - 1) (by omega) (by omega)
              · simp only [if_neg c3, if_neg c4]
                exact hso (i - 1) (j - 1) (by omega) (by omega)
      · intro a
        constructor
        · rintro (hs | rfl)
          · obtain ⟨i, hi', rfl⟩ := (hin a).mp hs
            by_cases c1 : i < p
            · exact ⟨i, by omega, by simp only [if_pos c1]⟩
            · exact ⟨i + 1, by omega, by simp only [if_neg (show ¬ i + 1 < p by omega), if_neg (show ¬ i + 1 = p by omega), Nat.add_sub_cancel]⟩
          · exact ⟨p, by omega, by simp⟩
        · rintro ⟨i, hi', rfl⟩
          by_cases c1 : i < p
          · simp only [if_pos c1]; exact Or.inl ((hin _).mpr ⟨i, by omega, rfl⟩)
          · by_cases c2 : i = p
            · simp only [if_neg c1, if_pos c2]; exact Or.inr trivial
            · simp only [if_neg c1, if_neg c2]; exact Or.inl ((hin _).mpr ⟨i - 1, by omega, rfl⟩)
      · split <;> omega
      · intro i hi'
        -- what stands ahead of a correction is one, what stands behind a news is one
        have up : ∀ i, i < p → e % 2 = 1 → q i % 2 = 1 := fun i x y => by have := hb i x; unfold aAh at this; omega
        have dn : ∀ i, p ≤ i → i < L → e % 2 = 0 → q i % 2 = 0 := fun i x y z => by have := ha i x y; unfold aAh at this; omega
        have pc : e % 2 = 1 → p ≤ c := fun y => by
          rcases Nat.lt_or_ge c p with x | x
          · exact absurd ((hodd c (by omega)).mp (up c x y)) (Nat.lt_irrefl c)
          · exact x
        have cp : e % 2 = 0 → c ≤ p := fun y => by
          rcases Nat.lt_or_ge p c with x | x
          · have := (hodd p (by omega)).mpr x
            have := dn p (Nat.le_refl p) (by omega) y
            omega
          · exact x
        by_cases c1 : i < p
        · simp only [if_pos c1]
          rw [hodd i (by omega)]
          split <;> omega
        · by_cases c2 : i = p
          · simp only [if_neg c1, if_pos c2]
            split <;> omega
          · simp only [if_neg c1, if_neg c2]
            rw [hodd (i - 1) (by omega)]
            split <;> omega
    intro p
    induction p with
    | zero =>
      intro j s hj hp hMs hf s20 lo hi ha
      obtain ⟨j, rfl⟩ : ∃ j', j = j' + 1 := ⟨j - 1, by omega⟩
      rw [e_Model_enqueue_0, if_pos (show nI 0 ≤ 0 by decide)]
      exact fin 0 s hp hMs hf s20 lo hi ha (fun i hi => absurd hi (Nat.not_lt_zero i))
    | succ p ih =>
      intro j s hj hp hMs hf s20 lo hi ha
      obtain ⟨j, rfl⟩ : ∃ j', j = j' + 1 := ⟨j - 1, by omega⟩
      rw [e_Model_enqueue_0, if_neg (nI_nle (by omega) (by omega)), nI_pred, if_pos (inb_n (a := p) (N := 40) (by omega) (by decide)), nI_clamp (n := p) (by omega), lo p (by omega), nI_clamp (n := p + 1) (by omega), pk_m1]
      refine zOk.bind (m_comesAhead hMs hh he (hq p (by omega)).2 (hT e (Or.inr rfl)) (hT (q p) (Or.inl ((hin _).mpr ⟨p, by omega, rfl⟩)))) (fun r hr => ?_)
      refine zOk.ite (fun x => ?_) (fun x => ?_)
      · have hb : aAh A h (q p) e := aAh_tot (fun z => hne p (by omega) z.symm) (hr.mp x)
        have := fin (p + 1) s hp hMs hf s20 lo hi ha (fun i hi' => by
          rcases Nat.lt_or_ge i p with y | y
          · exact aAh_tr (hso i p y (by omega)) hb
          · have : i = p := by omega
            subst this; exact hb)
        rw [nI_clamp (n := p + 1) (by omega)] at this
        exact this
      · have hb : aAh A h e (q p) := Classical.byContradiction (fun z => x (hr.mpr z))
        rw [if_pos (inb_n (a := p) (N := 40) (by omega) (by decide)), if_pos (inb_n (a := p + 1) (N := 40) (by omega) (by decide))]
        refine ih j _ (by omega) (by omega) (hMs.q90 _ _) (hf.tr (zfM.a90 _ _ _)) ?_ ?_ ?_ ?_
        · rw [zst_at, if_neg (by omega)]; exact s20
        · intro i hi'
          rw [zst_at, if_neg (by omega)]; exact lo i (by omega)
        · intro i h1 h2
          rw [zst_at]
          by_cases y : i = p
          · subst y; rw [if_pos ⟨rfl, rfl, rfl⟩]
          · rw [if_neg (by omega)]; exact hi i (by omega) h2
        · intro i h1 h2
          by_cases y : i = p
          · subst y; exact hb
          · exact ha i (by omega) h2
  exact key L zK σ (zK_lt (by omega)) (Nat.le_refl L) hM (zfM.rf σ) h20 (fun i hi => (hq i hi).1) (fun i h1 h2 => by omega) (fun i h1 h2 => by omega)
/-- the entries of a house among the first news -/
def aEnt (A : zAb) (h w : Nat) (e : Nat) : Prop := e / 2 < w ∧ (if e % 2 = 1 then A 10 h (e / 2) = 1 else A 7 h (e / 2) = 1)
theorem zQu.cg {s : zSt} {h : Nat} {q : Nat → Nat} {L c : Nat} {S S' : Nat → Prop} (hQ : zQu s A h q L c S) (e : ∀ a, S a ↔ S' a) : zQu s A h q L c S' :=
  ⟨hQ.1, hQ.2.1, hQ.2.2.1, fun a => (e a).symm.trans (hQ.2.2.2.1 a), hQ.2.2.2.2⟩
theorem m_layQueue (hM : zMr σ A) (hZ : zSz A n m) {h : Nat} (hh : h < 12) (hT : ∀ w, w < m → zTm (A 8 h w) ∧ zTm (A 11 h w)) :
    zOk (F_Model_layQueue (nI h) σ) (fun σ' => (∃ q, zQu σ' A h q (fb_ct (fun w => decide (A 10 h w = 1)) m + fb_ct (fun w => decide (A 7 h w = 1)) m) (fb_ct (fun w => decide (A 10 h w = 1)) m) (aEnt A h m)) ∧ zMr σ' A ∧ zfM σ σ') := by
  obtain ⟨hn, hm, hn12, hm20⟩ := hZ
  rw [F_Model_layQueue]
  have tm : ∀ e, e / 2 < m → zTm (aTm A h e) := fun e he => by
    unfold aTm
    split
    · exact (hT _ he).2
    · exact (hT _ he).1
  have key : ∀ d k j s, k + d = m → 2 * d < j → zMr s A → zfM σ s → (∃ q, zQu s A h q (fb_ct (fun w => decide (A 10 h w = 1)) k + fb_ct (fun w => decide (A 7 h w = 1)) k) (fb_ct (fun w => decide (A 10 h w = 1)) k) (aEnt A h k)) →
      zOk (L_Model_layQueue j 0 (nI h) (nI k) s) (fun σ' => (∃ q, zQu σ' A h q (fb_ct (fun w => decide (A 10 h w = 1)) m + fb_ct (fun w => decide (A 7 h w = 1)) m) (fb_ct (fun w => decide (A 10 h w = 1)) m) (aEnt A h m)) ∧ zMr σ' A ∧ zfM σ σ') := by
    intro d
    induction d with
    | zero =>
      intro k j s hk hj hMs hf hQ
      obtain ⟨j, rfl⟩ : ∃ j', j = j' + 1 := ⟨j - 1, by omega⟩
      have : k = m := by omega
      subst this
      rw [e_Model_layQueue_0, (hMs.sc (k := 7) (by decide)).trans hm, if_pos (nI_le0 (by omega))]
      exact ⟨_, rfl, hQ, hMs, hf⟩
    | succ d ih =>
      intro k j s hk hj hMs hf hQ
      obtain ⟨j, rfl⟩ : ∃ j', j = j' + 2 := ⟨j - 2, by omega⟩
      have c10 : fb_ct (fun w => decide (A 10 h w = 1)) k ≤ k := fb_ct_le _ _
      have c7 : fb_ct (fun w => decide (A 7 h w = 1)) k ≤ k := fb_ct_le _ _
      -- the second half: the correction
      have two : ∀ s2, zMr s2 A → zfM σ s2 → (∃ q, zQu s2 A h q (fb_ct (fun w => decide (A 10 h w = 1)) k + fb_ct (fun w => decide (A 7 h w = 1)) (k + 1)) (fb_ct (fun w => decide (A 10 h w = 1)) k) (fun e => aEnt A h k e ∨ (e = 2 * k ∧ A 7 h k = 1))) →
          zOk (L_Model_layQueue (j + 1) 1 (nI h) (nI k) s2) (fun σ' => (∃ q, zQu σ' A h q (fb_ct (fun w => decide (A 10 h w = 1)) m + fb_ct (fun w => decide (A 7 h w = 1)) m) (fb_ct (fun w => decide (A 10 h w = 1)) m) (aEnt A h m)) ∧ zMr σ' A ∧ zfM σ σ') := by
        intro s2 M2 f2 ⟨q, hQ2⟩
        have c7' : fb_ct (fun w => decide (A 7 h w = 1)) (k + 1) ≤ k + 1 := fb_ct_le _ _
        rw [e_Model_layQueue_1]
        refine zOk.eq (m_pair7 M2 hh (by omega)) ?_
        refine zOk.ite (fun x => ?_) (fun x => ?_)
        · rw [show (2 : Int32) * nI k + 1 = nI (2 * k + 1) by rw [show (2 : Int32) = nI 2 from rfl, pk_mul, nI_1]]
          refine zOk.bind (m_enqueue M2 hh (e := 2 * k + 1) (by omega) (by omega) hQ2 ?_ ?_) (fun s3 ⟨⟨q', hQ3⟩, M3, f3⟩ => ?_)
          · rintro (⟨z, -⟩ | ⟨z, -⟩) <;> omega
          · rintro a ((⟨z, -⟩ | ⟨z, -⟩) | z)
            · exact tm a (by omega)
            · exact tm a (by omega)
            · exact tm a (by omega)
          · rw [nI_1]
            refine ih (k + 1) j s3 (by omega) (by omega) M3 (f2.tr f3) ⟨q', ?_⟩
            rw [fb_ct_succ (fun w => decide (A 10 h w = 1)), if_pos (show decide (A 10 h k = 1) = true by simpa using x)]
            rw [if_pos (show (2 * k + 1) % 2 = 1 by omega)] at hQ3
            rw [show fb_ct (fun w => decide (A 10 h w = 1)) k + 1 + fb_ct (fun w => decide (A 7 h w = 1)) (k + 1) = fb_ct (fun w => decide (A 10 h w = 1)) k + fb_ct (fun w => decide (A 7 h w = 1)) (k + 1) + 1 by omega]
            refine hQ3.cg (fun a => ?_)
            unfold aEnt
            constructor
            · rintro ((⟨z1, z2⟩ | ⟨rfl, z2⟩) | rfl)
              · exact ⟨by omega, z2⟩
              · refine ⟨by omega, ?_⟩
                rw [if_neg (by omega), show 2 * k / 2 = k by omega]; exact z2
              · refine ⟨by omega, ?_⟩
                rw [if_pos (by omega), show (2 * k + 1) / 2 = k by omega]; exact x
            · rintro ⟨z1, z2⟩
              rcases (show a / 2 < k ∨ a = 2 * k ∨ a = 2 * k + 1 by omega) with y | y | y
              · exact Or.inl (Or.inl ⟨y, z2⟩)
              · subst y
                rw [if_neg (by omega), show 2 * k / 2 = k by omega] at z2
                exact Or.inl (Or.inr ⟨rfl, z2⟩)
              · exact Or.inr y
        · rw [nI_1]
          refine ih (k + 1) j s2 (by omega) (by omega) M2 f2 ⟨q, ?_⟩
          rw [fb_ct_succ (fun w => decide (A 10 h w = 1)), if_neg (show ¬ decide (A 10 h k = 1) = true by simpa using x), Nat.add_zero]
          refine hQ2.cg (fun a => ?_)
          unfold aEnt
          constructor
          · rintro (⟨z1, z2⟩ | ⟨rfl, z2⟩)
            · exact ⟨by omega, z2⟩
            · refine ⟨by omega, ?_⟩
              rw [if_neg (by omega), show 2 * k / 2 = k by omega]; exact z2
          · rintro ⟨z1, z2⟩
            rcases (show a / 2 < k ∨ a = 2 * k ∨ a = 2 * k + 1 by omega) with y | y | y
            · exact Or.inl ⟨y, z2⟩
            · subst y
              rw [if_neg (by omega), show 2 * k / 2 = k by omega] at z2
              exact Or.inr ⟨rfl, z2⟩
            · subst y
              rw [if_pos (by omega), show (2 * k + 1) / 2 = k by omega] at z2
              exact absurd z2 x
      obtain ⟨q, hQ⟩ := hQ
      rw [e_Model_layQueue_0, (hMs.sc (k := 7) (by decide)).trans hm, if_neg (nI_ge (by omega) (by omega))]
      refine zOk.eq (m_pair4 hMs hh (by omega)) ?_
      refine zOk.ite (fun x => ?_) (fun x => ?_)
      · rw [show (2 : Int32) * nI k = nI (2 * k) by rw [show (2 : Int32) = nI 2 from rfl, pk_mul]]
        refine zOk.bind (m_enqueue hMs hh (e := 2 * k) (by omega) (by omega) hQ ?_ ?_) (fun s3 ⟨⟨q', hQ3⟩, M3, f3⟩ => ?_)
        · rintro ⟨z, -⟩; omega
        · rintro a (⟨z, -⟩ | z)
          · exact tm a (by omega)
          · exact tm a (by omega)
        · refine two s3 M3 (hf.tr f3) ⟨q', ?_⟩
          rw [fb_ct_succ (fun w => decide (A 7 h w = 1)), if_pos (show decide (A 7 h k = 1) = true by simpa using x), ← Nat.add_assoc]
          rw [if_neg (show ¬ (2 * k) % 2 = 1 by omega)] at hQ3
          exact hQ3.cg (fun a => ⟨fun z => z.imp id (fun y => ⟨y, x⟩), fun z => z.imp id (fun y => y.1)⟩)
      · refine two s hMs hf ⟨q, ?_⟩
        rw [fb_ct_succ (fun w => decide (A 7 h w = 1)), if_neg (show ¬ decide (A 7 h k = 1) = true by simpa using x), Nat.add_zero]
        exact hQ.cg (fun a => ⟨Or.inl, fun z => z.elim id (fun y => absurd y.2 x)⟩)
  refine key m 0 zK _ (by omega) (zK_lt (by omega)) (hM.q20 (by decide) _) (zfM.a80 _ (by decide) _) ⟨fun _ => 0, ?_, fun i hi => absurd hi (Nat.not_lt_zero i), fun i j h1 h2 => absurd h2 (Nat.not_lt_zero j), fun e => ⟨fun z => absurd z.1 (Nat.not_lt_zero _), fun ⟨i, hi, _⟩ => absurd hi (Nat.not_lt_zero i)⟩, Nat.zero_le _, fun i hi => absurd hi (Nat.not_lt_zero i)⟩
  rw [zst_at, if_pos ⟨rfl, rfl, rfl⟩]; rfl
end MU
