/-! who comes first, who wishes, who is drawn -/
def zbest (P : Nat → Bool) (t : Nat → Int32) : Nat → Option Nat
  | 0 => none
  | k + 1 => match zbest P t k with
    | none => if P k = true then some k else none
    | some j => if P k = true ∧ t k < t j then some k else some j
theorem zbest_none {P : Nat → Bool} {t : Nat → Int32} : ∀ {k : Nat}, zbest P t k = none → ∀ i, i < k → P i = false
  | 0, _, i, hi => absurd hi (Nat.not_lt_zero i)
  | k + 1, h, i, hi => by
    rw [zbest] at h
    cases e : zbest P t k with
    | none =>
      rw [e] at h
      have ih := zbest_none e
      by_cases q : P k = true
      · simp [q] at h
      · rcases Nat.lt_or_ge i k with y | y
        · exact ih i y
        · have : i = k := by omega
          subst this; simpa using q
    | some j =>
      rw [e] at h
      simp only at h
      split at h <;> cases h
theorem zbest_some {P : Nat → Bool} {t : Nat → Int32} : ∀ {k j : Nat}, zbest P t k = some j → j < k ∧ P j = true ∧ ∀ i, i < k → P i = true → i ≠ j → ((t j).toInt < (t i).toInt ∨ ((t j).toInt = (t i).toInt ∧ j < i))
  | 0, j, h => by cases h
  | k + 1, j, h => by
    rw [zbest] at h
    cases e : zbest P t k with
    | none =>
      rw [e] at h
      have ih := zbest_none e
      simp only at h
      by_cases q : P k = true
      · rw [if_pos q] at h
        cases h
        refine ⟨Nat.lt_succ_self _, q, fun i hi hp hne => ?_⟩
        rw [ih i (by omega)] at hp; cases hp
      · rw [if_neg q] at h; cases h
    | some j0 =>
      rw [e] at h
      obtain ⟨h1, h2, h3⟩ := zbest_some e
      simp only at h
      by_cases q : P k = true ∧ t k < t j0
      · rw [if_pos q] at h
        cases h
        have q2 := Int32.lt_iff_toInt_lt.mp q.2
        refine ⟨Nat.lt_succ_self _, q.1, fun i hi hp hne => ?_⟩
        by_cases y : i = j0
        · subst y; exact Or.inl q2
        · rcases h3 i (by omega) hp y with z | z <;> omega
      · rw [if_neg q] at h
        cases h
        refine ⟨by omega, h2, fun i hi hp hne => ?_⟩
        rcases Nat.lt_or_ge i k with y | y
        · exact h3 i y hp hne
        · have : i = k := by omega
          subst this
          have q2 : ¬ t i < t j := fun z => q ⟨hp, z⟩
          rw [Int32.lt_iff_toInt_lt] at q2
          omega
def oI : Option Nat → Int32
  | none => -1
  | some e => nI e
def aFc (A : zAb) (n m h : Nat) : Option Nat := zbest (fun w => decide (A 10 h w = 1) && aSend A n h w) (fun w => A 11 h w) m
def aFn (A : zAb) (m h : Nat) : Option Nat := zbest (fun w => decide (A 7 h w = 1)) (fun w => A 8 h w) m
def aFirst (A : zAb) (n m h : Nat) : Option Nat := match aFc A n m h with
  | some w => some (2 * w + 1)
  | none => match aFn A m h with
    | some w => some (2 * w)
    | none => none
def aCs (A : zAb) (n h e : Nat) : Bool := if e % 2 = 1 then aSend A n h (e / 2) else true
theorem aFirst_none {A : zAb} {n m h : Nat} (h0 : aFirst A n m h = none) : ∀ e, aEnt A h m e → aCs A n h e = false := by
  intro e ⟨he, hx⟩
  unfold aFirst at h0
  cases e1 : aFc A n m h with
  | some w => rw [e1] at h0; cases h0
  | none =>
    rw [e1] at h0
    cases e2 : aFn A m h with
    | some w => rw [e2] at h0; cases h0
    | none =>
      have k1 := zbest_none e1 (e / 2) he
      have k2 := zbest_none e2 (e / 2) he
      unfold aCs
      by_cases q : e % 2 = 1
      · rw [if_pos q] at hx
        rw [if_pos q]
        simpa [hx] using k1
      · rw [if_neg q] at hx
        simp [hx] at k2
theorem aFirst_some {A : zAb} {n m h e : Nat} (h0 : aFirst A n m h = some e) : aEnt A h m e ∧ aCs A n h e = true ∧ ∀ e', aEnt A h m e' → aCs A n h e' = true → e' ≠ e → aAh A h e e' := by
  unfold aFirst at h0
  cases e1 : aFc A n m h with
  | some w =>
    rw [e1] at h0
    cases h0
    obtain ⟨k1, k2, k3⟩ := zbest_some e1
    simp only [Bool.and_eq_true, decide_eq_true_eq] at k2
    refine ⟨⟨by omega, by rw [if_pos (by omega), show (2 * w + 1) / 2 = w by omega]; exact k2.1⟩, by rw [aCs, if_pos (by omega), show (2 * w + 1) / 2 = w by omega]; exact k2.2, ?_⟩
    intro e' ⟨h1, h2⟩ h3 h4
    unfold aAh aTm
    by_cases q : e' % 2 = 1
    · rw [if_pos q] at h2
      rw [aCs, if_pos q] at h3
      have := k3 (e' / 2) h1 (by simp [h2, h3]) (by omega)
      rw [if_pos q, if_pos (show (2 * w + 1) % 2 = 1 by omega), show (2 * w + 1) / 2 = w by omega]
      omega
    · exact Or.inl ⟨by omega, by omega⟩
  | none =>
    rw [e1] at h0
    cases e2 : aFn A m h with
    | none => rw [e2] at h0; cases h0
    | some w =>
      rw [e2] at h0
      cases h0
      obtain ⟨k1, k2, k3⟩ := zbest_some e2
      have k2 : A 7 h w = 1 := by simpa using k2
      refine ⟨⟨by omega, by rw [if_neg (by omega), show 2 * w / 2 = w by omega]; exact k2⟩, by rw [aCs, if_neg (by omega)], ?_⟩
      intro e' ⟨h1, h2⟩ h3 h4
      unfold aAh aTm
      by_cases q : e' % 2 = 1
      · rw [if_pos q] at h2
        rw [aCs, if_pos q] at h3
        have := zbest_none e1 (e' / 2) h1
        simp [h2, h3] at this
      · rw [if_neg q] at h2
        have := k3 (e' / 2) h1 (by simp [h2]) (by omega)
        rw [if_neg q, if_neg (show ¬ (2 * w) % 2 = 1 by omega), show 2 * w / 2 = w by omega]
        omega
def aWish (A : zAb) (n m h : Nat) : Bool := !aQuiet A h (aT A) && !decide (A 1 h 3 < A 0 0 0) && !decide (A 0 3 0 ≤ A 1 h 7) && (aFirst A n m h).isSome
def zrest (P : Nat → Bool) (s : Nat → Nat) : Nat → Nat → Nat
  | 0, _ => 0
  | d + 1, h => (if P h = true then s h else 0) + zrest P s d (h + 1)
def zpick (P : Nat → Bool) (s : Nat → Nat) : Nat → Nat → Nat → Nat
  | 0, h, _ => h
  | d + 1, h, l => if P h = true then (if l < s h then h else zpick P s d (h + 1) (l - s h)) else zpick P s d (h + 1) l
theorem zpick_in {P : Nat → Bool} {s : Nat → Nat} : ∀ {d h l : Nat}, l < zrest P s d h → zpick P s d h l < h + d ∧ P (zpick P s d h l) = true
  | 0, h, l, hl => absurd hl (Nat.not_lt_zero l)
  | d + 1, h, l, hl => by
    rw [zrest] at hl
    rw [zpick]
    by_cases q : P h = true
    · rw [if_pos q] at hl ⊢
      by_cases q2 : l < s h
      · rw [if_pos q2]; exact ⟨by omega, q⟩
      · rw [if_neg q2]
        obtain ⟨h1, h2⟩ := zpick_in (P := P) (s := s) (d := d) (h := h + 1) (l := l - s h) (by omega)
        exact ⟨by omega, h2⟩
    · rw [if_neg q] at hl ⊢
      obtain ⟨h1, h2⟩ := zpick_in (P := P) (s := s) (d := d) (h := h + 1) (l := l) (by omega)
      exact ⟨by omega, h2⟩
def aSh (A : zAb) (h : Nat) : Nat := (A 1 h 4).toNatClampNeg
def aX (A : zAb) : Nat := (1103 * (A 0 9 0).toNatClampNeg + 12345) % 1000003
def aSum (A : zAb) (n m : Nat) : Nat := zrest (aWish A n m) (aSh A) n 0
def aSpk (A : zAb) (n m : Nat) : Nat := zpick (aWish A n m) (aSh A) n 0 (aX A % aSum A n m)
theorem zs_rest (P : Nat → Bool) (s : Nat → Nat) (f : Nat → Int32) (N : Nat) (hf : ∀ k, k < N → f k = nI (s k)) : ∀ n, n ≤ N → zs (fun h => if P h = true then f h else 0) n = nI (zrest P s n 0) := by
  have e : ∀ d h, zrest P s (d + 1) h = zrest P s d h + (if P (h + d) = true then s (h + d) else 0) := by
    intro d
    induction d with
    | zero => intro h; simp [zrest]
    | succ d ih =>
      intro h
      rw [zrest, ih (h + 1), zrest, show h + 1 + d = h + (d + 1) by omega]
      omega
  intro n
  induction n with
  | zero => intro _; rfl
  | succ n ih =>
    intro hn
    rw [zs, ih (by omega), e n 0, ← nI_add, Nat.zero_add]
    congr 1
    by_cases q : P n = true
    · simp only [if_pos q]; exact hf n (by omega)
    · simp only [if_neg q]; rfl
theorem zrest_pos {P : Nat → Bool} {s : Nat → Nat} : ∀ {d h : Nat}, (∃ i, h ≤ i ∧ i < h + d ∧ P i = true) → (∀ i, h ≤ i → i < h + d → 0 < s i) → 0 < zrest P s d h
  | 0, h, ⟨i, h1, h2, _⟩, _ => by omega
  | d + 1, h, ⟨i, h1, h2, h3⟩, hs => by
    rw [zrest]
    by_cases q : i = h
    · subst q
      rw [if_pos h3]
      have := hs i (Nat.le_refl i) (by omega)
      omega
    · have := zrest_pos (P := P) (s := s) (d := d) (h := h + 1) ⟨i, by omega, by omega, h3⟩ (fun i a b => hs i (by omega) (by omega))
      omega
theorem zrest_le {P : Nat → Bool} {s : Nat → Nat} {c : Nat} : ∀ {d h : Nat}, (∀ i, h ≤ i → i < h + d → s i ≤ c) → zrest P s d h ≤ d * c
  | 0, h, _ => Nat.zero_le _
  | d + 1, h, hs => by
    have := zrest_le (P := P) (s := s) (c := c) (d := d) (h := h + 1) (fun i a b => hs i (by omega) (by omega))
    have := hs h (Nat.le_refl h) (by omega)
    rw [zrest, Nat.succ_mul]
    split <;> omega
section MS
variable {σ : zSt} {A : zAb} {n m : Nat}
theorem m_canSend (hM : zMr σ A) (hZ : zSz A n m) {h e : Nat} (hh : h < 12) (he : e < 40) : F_Model_canSend (nI h) (nI e) σ = some (bI (aCs A n h e)) := by
  rw [F_Model_canSend, m_isCorrection (by omega), Option.bind_some, m_half (by omega), m_owedBy hM hZ hh (by omega), m_near hM hZ hh]
  simp only [Option.bind_some, bI_0, aCs]
  by_cases q : e % 2 = 1
  · rw [if_neg (by simp [q]), if_pos q]
    unfold aSend aOws aNear
    generalize zm (fun o => aOw A h o (e / 2)) n &&& zm (aRng A h) n = z
    by_cases y : z = 0 <;> simp [y, bI]
  · rw [if_pos (by simp [q]), if_neg q]
    rfl
theorem m_firstToSend (hM : zMr σ A) (hZ : zSz A n m) {h : Nat} (hh : h < 12) (hT : ∀ w, w < m → zTm (A 8 h w) ∧ zTm (A 11 h w)) : zOk (F_Model_firstToSend (nI h) σ) (fun q => q.1 = oI (aFirst A n m h) ∧ zMr q.2 A ∧ zfM σ q.2) := by
  rw [F_Model_firstToSend]
  refine zOk.bind (m_layQueue hM hZ hh hT) (fun s ⟨⟨q, hQ⟩, Ms, fs⟩ => ?_)
  generalize hL : fb_ct (fun w => decide (A 10 h w = 1)) m + fb_ct (fun w => decide (A 7 h w = 1)) m = L at hQ
  have hL40 : L ≤ 40 := by
    have := fb_ct_le (fun w => decide (A 10 h w = 1)) m
    have := fb_ct_le (fun w => decide (A 7 h w = 1)) m
    have := hZ.2.2.2
    omega
  obtain ⟨h20, hq, hso, hin, -, -⟩ := hQ
  refine z_loopC (fun j k s => L_Model_firstToSend j 0 (nI h) (nI k) s) L 0 (fun k s' => s' = s ∧ ∀ i, i < k → aCs A n h (q i) = false) _ (fun k s' hk hI j kk => ?_) (fun s' hI j hj => ?_) zK s (zK_lt (by omega)) ⟨rfl, fun i hi => absurd hi (Nat.not_lt_zero i)⟩
  · try dsimp only
    obtain ⟨rfl, hI⟩ := hI
    rw [e_Model_firstToSend_0, h20, if_neg (nI_ge hk (by omega)), if_pos (inb_n (by omega) (by decide)), nI_clamp (by omega), (hq k hk).1]
    refine zOk.eq (m_canSend Ms hZ hh (hq k hk).2) ?_
    refine zOk.ite (fun x => ?_) (fun x => zOk.pos (inb_n (by omega) (by decide)) ?_)
    · rw [nI_1]
      refine kk s' ⟨rfl, fun i hi => ?_⟩
      rcases Nat.lt_or_ge i k with y | y
      · exact hI i y
      · have : i = k := by omega
        subst this
        exact (bI_0 _).mp x
    · have hc : aCs A n h (q k) = true := by
        cases y : aCs A n h (q k) with
        | true => rfl
        | false => exact absurd (bI_f y) x
      have he : aEnt A h m (q k) := (hin _).mpr ⟨k, hk, rfl⟩
      refine ⟨_, rfl, ?_, Ms, fs⟩
      show nI (q k) = oI (aFirst A n m h)
      cases e : aFirst A n m h with
      | none => rw [aFirst_none e _ he] at hc; cases hc
      | some e' =>
        obtain ⟨g1, g2, g3⟩ := aFirst_some e
        by_cases y : q k = e'
        · rw [y]; rfl
        · have a1 := g3 (q k) he hc y
          obtain ⟨i, hi, rfl⟩ := (hin e').mp g1
          have : k < i := by
            rcases Nat.lt_or_ge i k with z | z
            · rw [hI i z] at g2; cases g2
            · rcases Nat.lt_or_ge k i with w | w
              · exact w
              · have : i = k := by omega
                subst this; exact absurd rfl y
          exact absurd (aAh_tr a1 (hso k i this hi)) aAh_ir
  · try dsimp only
    obtain ⟨rfl, hI⟩ := hI
    rw [e_Model_firstToSend_0, h20, if_pos (nI_le0 (by omega))]
    refine ⟨_, rfl, ?_, Ms, fs⟩
    show -1 = oI (aFirst A n m h)
    cases e : aFirst A n m h with
    | none => rfl
    | some e' =>
      obtain ⟨g1, g2, g3⟩ := aFirst_some e
      obtain ⟨i, hi, rfl⟩ := (hin e').mp g1
      rw [hI i hi] at g2; cases g2
theorem m_isWishing (hM : zMr σ A) (hZ : zSz A n m) (hd : A 0 5 0 ≠ 0) {h : Nat} (hh : h < 12) (hT : ∀ w, w < m → zTm (A 8 h w) ∧ zTm (A 11 h w)) : zOk (F_Model_isWishing (nI h) σ) (fun q => q.1 = bI (aWish A n m h) ∧ zMr q.2 A ∧ zfM σ q.2) := by
  rw [F_Model_isWishing, hM.sc (k := 0) (by decide), hM.sc (k := 3) (by decide)]
  refine zOk.eq (m_quiet hM hd hh) ?_
  unfold aWish
  cases q1 : aQuiet A h (aT A) with
  | true => exact zOk.neg (by decide) ⟨_, rfl, rfl, hM, zfM.rf σ⟩
  | false =>
    refine zOk.pos rfl (zOk.eq (m_of3 hM hh) (zOk.ite (fun q2 => ?_) (fun q2 => zOk.eq (m_of7 hM hh) (zOk.ite (fun q3 => ?_) (fun q3 => ?_)))))
    · exact ⟨_, rfl, by simp [q2, bI], hM, zfM.rf σ⟩
    · exact ⟨_, rfl, by simp [q2, q3, bI], hM, zfM.rf σ⟩
    · refine zOk.bd2 (m_firstToSend hM hZ hh hT) (fun r s ⟨hr, Ms, fs⟩ => ?_)
      have hr : r = oI (aFirst A n m h) := hr
      cases e : aFirst A n m h with
      | none =>
        rw [e] at hr
        exact zOk.pos hr ⟨_, rfl, by simp [bI], Ms, fs⟩
      | some e' =>
        rw [e] at hr
        obtain ⟨g1, -, -⟩ := aFirst_some e
        have g1 : e' / 2 < m := g1.1
        have := hZ.2.2.2
        have ne : ¬ r = -1 := by
          rw [hr]
          intro z
          have z2 := congrArg Int32.toInt z
          rw [show (oI (some e')).toInt = (e' : Int) from nI_toInt (by omega)] at z2
          have : (-1 : Int32).toInt = -1 := by decide
          omega
        exact zOk.neg ne ⟨_, rfl, by simp [bI, q2, q3], Ms, fs⟩
theorem m_wishing (hM : zMr σ A) (hZ : zSz A n m) (hd : A 0 5 0 ≠ 0) (hT : ∀ h w, h < n → w < m → zTm (A 8 h w) ∧ zTm (A 11 h w)) : zOk (F_Model_wishing σ) (fun q => q.1 = zm (aWish A n m) n ∧ zMr q.2 A ∧ zfM σ q.2) := by
  have hn12 := hZ.2.2.1
  rw [F_Model_wishing]
  refine z_loopC (fun j k s => L_Model_wishing j 0 (zm (aWish A n m) k) (nI k) s) n 0 (fun k s => zMr s A ∧ zfM σ s) _ (fun k s hk hI j kk => ?_) (fun s hI j hj => ?_) zK σ (zK_lt (by omega)) ⟨hM, zfM.rf σ⟩
  · try dsimp only
    rw [e_Model_wishing_0, (hI.1.sc (k := 6) (by decide)).trans hZ.1, if_neg (nI_ge hk (by omega))]
    refine zOk.bd2 (m_isWishing hI.1 hZ hd (by omega) (fun w hw => hT k w hk hw)) (fun r s2 ⟨hr, M2, f2⟩ => ?_)
    have hr : r = bI (aWish A n m k) := hr
    have kk2 := kk s2 ⟨M2, hI.2.tr f2⟩
    rw [hr]
    cases q : aWish A n m k with
    | false =>
      refine zOk.pos rfl ?_
      rw [zm_s0 q] at kk2
      rw [Int32.add_zero, nI_1]
      exact kk2
    | true =>
      refine zOk.neg (by decide) ?_
      rw [zm_s1 q, ← zm_add (by omega)] at kk2
      rw [nI_1]
      exact kk2
  · try dsimp only
    rw [e_Model_wishing_0, (hI.1.sc (k := 6) (by decide)).trans hZ.1, if_pos (nI_le0 (by omega))]
    exact ⟨_, rfl, rfl, hI⟩
theorem m_draw (hM : zMr σ A) {x s : Nat} (hx : x < 1000003) (hX : A 0 9 0 = nI x) (h0 : 0 < s) (hs : s < 2 ^ 31) : zOk (F_Model_draw (nI s) σ) (fun q => q.1 = nI (aX A % s) ∧ zMr q.2 (aup A 0 9 0 (nI (aX A))) ∧ zfM σ q.2) := by
  have ex : aX A = (1103 * x + 12345) % 1000003 := by rw [aX, hX, nI_clamp (by omega)]
  have e : ((((1103 : Int64) * (σ.1 4 81 9).toInt64) + (12345 : Int64)) - (((1103 : Int64) * (σ.1 4 81 9).toInt64) + (12345 : Int64)) / (1000003 : Int64) * (1000003 : Int64)).toInt32 = nI (aX A) := by
    rw [hM.sc (k := 9) (by decide), hX, nI_l (by omega), show (1103 : Int64) = lN 1103 from rfl, show (12345 : Int64) = lN 12345 from rfl, show (1000003 : Int64) = lN 1000003 from rfl, lN_mul, lN_add, pk_lRem (by omega) (by decide) (by decide), lN_i, ex]
  rw [F_Model_draw, e, if_pos (nI_ne0 h0 hs)]
  refine ⟨_, rfl, ?_, hM.ps (by decide) _, zfM.a81 _ _ _⟩
  show (zst σ 4 81 9 (nI (aX A))).1 4 81 9 - (zst σ 4 81 9 (nI (aX A))).1 4 81 9 / nI s * nI s = _
  rw [zst_at, if_pos ⟨rfl, rfl, rfl⟩]
  exact pk_rem (by rw [ex]; omega) h0 hs
theorem m_pick (hM : zMr σ A) (hn : n ≤ 12) {P : Nat → Bool} {s : Nat → Nat} (hs : ∀ i, i < n → A 1 i 4 = nI (s i) ∧ s i < 1000) : ∀ d h l j, h + d = n → l < zrest P s d h → 2 * d < j → l < 2 ^ 20 → L_Model_drawSpeaker j 0 (zm P n) (nI l) (nI h) σ = some (nI (zpick P s d h l), σ) := by
  intro d
  induction d with
  | zero => intro h l j _ hl; exact absurd hl (Nat.not_lt_zero l)
  | succ d ih =>
    intro h l j hh hl hj hl2
    obtain ⟨j, rfl⟩ : ∃ j', j = j' + 2 := ⟨j - 2, by omega⟩
    obtain ⟨s1, s2⟩ := hs h (by omega)
    rw [zrest] at hl
    rw [e_Model_drawSpeaker_0, e_Model_drawSpeaker_1, zm_get (by omega) (show h < n by omega), m_of4 hM (by omega), s1]
    simp only [Option.bind_some, zpick]
    by_cases q : P h = true
    · rw [if_pos q] at hl
      simp only [if_pos q]
      rw [if_neg (by decide)]
      by_cases q2 : l < s h
      · rw [if_pos (nI_lt q2 (by omega)), if_pos q2]
      · rw [if_neg (nI_nlt (by omega) (by omega)), if_neg q2, Int32.one_mul, pk_sub (by omega), nI_1]
        exact ih (h + 1) (l - s h) j (by omega) (by omega) (by omega) (by omega)
    · rw [if_neg q] at hl
      simp only [if_neg q]
      rw [if_pos trivial, Int32.zero_mul, Int32.sub_zero, nI_1]
      exact ih (h + 1) l j (by omega) (by omega) (by omega) hl2
/-- the state behind the draw, and who is drawn -/
def aDrawn (A : zAb) (n m : Nat) : zAb := if zm (aWish A n m) n = 0 then A else aup A 0 9 0 (nI (aX A))
def aSpe (A : zAb) (n m : Nat) : Int32 := if zm (aWish A n m) n = 0 then -1 else nI (aSpk A n m)
theorem aSpk_in (hn : n ≤ 12) (hs : ∀ i, i < n → A 1 i 4 = nI (aSh A i) ∧ 0 < aSh A i ∧ aSh A i < 10) (hw : ¬ zm (aWish A n m) n = 0) : 0 < aSum A n m ∧ aSum A n m ≤ 120 ∧ aSpk A n m < n ∧ aWish A n m (aSpk A n m) = true := by
  have h1 : 0 < aSum A n m := by
    refine zrest_pos ?_ (fun i _ hi => (hs i (by omega)).2.1)
    apply Classical.byContradiction
    intro z
    apply hw
    rw [zm_zero (by omega)]
    intro i hi
    cases y : aWish A n m i with
    | false => rfl
    | true => exact absurd ⟨i, Nat.zero_le i, by omega, y⟩ z
  have h2 : aSum A n m ≤ n * 9 := zrest_le (fun i _ hi => by have := (hs i (by omega)).2.2; omega)
  have h3 := zpick_in (P := aWish A n m) (s := aSh A) (d := n) (h := 0) (l := aX A % aSum A n m) (Nat.mod_lt _ h1)
  rw [Nat.zero_add] at h3
  exact ⟨h1, by omega, h3.1, h3.2⟩
theorem m_drawSpeaker (hM : zMr σ A) (hZ : zSz A n m) (hd : A 0 5 0 ≠ 0) (hT : ∀ h w, h < n → w < m → zTm (A 8 h w) ∧ zTm (A 11 h w)) {x : Nat} (hx : x < 1000003) (hX : A 0 9 0 = nI x) (hs : ∀ i, i < n → A 1 i 4 = nI (aSh A i) ∧ 0 < aSh A i ∧ aSh A i < 10) :
    zOk (F_Model_drawSpeaker σ) (fun q => q.1 = aSpe A n m ∧ zMr q.2 (aDrawn A n m) ∧ zfM σ q.2) := by
  have hn12 := hZ.2.2.1
  rw [F_Model_drawSpeaker]
  refine zOk.bd2 (m_wishing hM hZ hd hT) (fun r s1 ⟨hr, M1, f1⟩ => ?_)
  have hr : r = zm (aWish A n m) n := hr
  rw [hr]
  unfold aSpe aDrawn
  refine zOk.ite (fun c => ?_) (fun c => ?_)
  · rw [if_pos c, if_pos c]
    exact ⟨_, rfl, rfl, M1, f1⟩
  · rw [if_neg c, if_neg c]
    obtain ⟨g1, g2, g3, g4⟩ := aSpk_in hn12 hs c
    refine zOk.eq (m_shares M1 hZ) ?_
    rw [zs_rest (aWish A n m) (aSh A) (fun h => A 1 h 4) n (fun k hk => (hs k hk).1) n (Nat.le_refl n)]
    refine zOk.bd2 (m_draw M1 hx hX g1 (show aSum A n m < 2 ^ 31 by omega)) (fun r2 s2 ⟨hr2, M2, f2⟩ => ?_)
    have hr2 : r2 = nI (aX A % aSum A n m) := hr2
    have hm := Nat.mod_lt (aX A) g1
    rw [hr2, show (0 : Int32) = nI 0 from rfl, m_pick M2 hn12 (s := aSh A) (fun i hi => ⟨by rw [← (hs i hi).1]; simp [aup], by have := (hs i hi).2.2; omega⟩) n 0 _ zK (Nat.zero_add n) hm (zK_lt (by omega)) (by omega)]
    exact ⟨_, rfl, rfl, M2, f1.tr f2⟩
end MS
