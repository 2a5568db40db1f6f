/-! what the reference's inner methods do to the abstract state -/
theorem z_loopC {γ α : Type} (T : Nat → Nat → α → Option γ) (N c : Nat) (I : Nat → α → Prop) (Q : γ → Prop) (hs : ∀ k s, k < N → I k s → ∀ m, (∀ s', I (k + 1) s' → zOk (T m (k + 1) s') Q) → zOk (T (m + 1) k s) Q) (he : ∀ s, I N s → ∀ m, c ≤ m → zOk (T (m + 1) N s) Q) : ∀ m s, N + c < m → I 0 s → zOk (T m 0 s) Q := by
  have key : ∀ d k m s, k + d = N → d + c < m → I k s → zOk (T m k s) Q := by
    intro d
    induction d with
    | zero =>
      intro k m s h hm hi
      obtain ⟨m', rfl⟩ : ∃ m', m = m' + 1 := ⟨m - 1, by omega⟩
      have : k = N := by omega
      subst this
      exact he s hi m' (by omega)
    | succ d ih =>
      intro k m s h hm hi
      obtain ⟨m', rfl⟩ : ∃ m', m = m' + 1 := ⟨m - 1, by omega⟩
      exact hs k s (by omega) hi m' (fun s' hi' => ih (k + 1) m' s' (by omega) (by omega) hi')
  intro m s hm hi
  exact key N 0 m s (by omega) hm hi
theorem zMr.cg {σ : zSt} {A B : zAb} (h : zMr σ A) (e : ∀ f i j, A f i j = B f i j) : zMr σ B := by
  have : A = B := funext fun f => funext fun i => funext fun j => e f i j
  rw [← this]; exact h
def aClr (A : zAb) (h w : Nat) : zAb := fun f i j => if 3 ≤ f ∧ f ≤ 11 ∧ i = h ∧ j = w then (if f = 5 then -1 else 0) else A f i j
def aHv (x y r b s : Int32) (j : Nat) : Int32 := if j = 0 then x else if j = 1 then y else if j = 2 then r else if j = 3 then b else if j = 4 then s else if j = 5 then -1 else if j = 6 then -1 else 0
def aHouse (A : zAb) (n : Nat) (x y r b s : Int32) : zAb := fun f i j => if f = 1 ∧ i = n ∧ j < 10 then aHv x y r b s j else if 3 ≤ f ∧ f ≤ 11 ∧ i = n ∧ j < 20 then (if f = 5 then -1 else 0) else if f = 0 ∧ i = 6 ∧ j = 0 then nI (n + 1) else A f i j
def aEnter (A : zAb) (h w : Nat) (hops : Int32) : zAb := aup (aup (aup A 7 h w 1) 8 h w (A 0 8 0)) 9 h w hops
def aTell (A : zAb) (m h : Nat) (body : Int32) : zAb := fun f i j =>
  if 3 ≤ f ∧ f ≤ 11 ∧ i < 12 ∧ j = m then (if i = h ∧ f = 3 then 1 else if i = h ∧ f = 7 then 1 else if i = h ∧ f = 8 then A 0 8 0 else if f = 5 then -1 else 0)
  else if f = 2 ∧ i = m ∧ j < 6 then (if j = 0 then nI h else if j = 1 then A 0 8 0 else if j = 2 then body else -1) else if f = 0 ∧ i = 7 ∧ j = 0 then nI (m + 1) else A f i j
def aLearn (A : zAb) (n h w : Nat) : zAb :=
  if aOws (aup (aup A 4 h w 1) 7 h w 0) n h w = 0 then aup (aup A 4 h w 1) 7 h w 0 else aup (aup (aup (aup A 4 h w 1) 7 h w 0) 10 h w 1) 11 h w (A 0 8 0)
def aBat (A : zAb) (h : Nat) : Int32 := if A 1 h 3 + A 0 2 0 < 999 then A 1 h 3 + A 0 2 0 else 999
def aDay (A : zAb) (k : Nat) : zAb := fun f i j => if f = 1 ∧ i < k ∧ j = 3 then aBat A i else if f = 1 ∧ i < k ∧ j = 7 then 0 else A f i j
def aBegin (A : zAb) (n : Nat) : zAb := if 0 < A 0 8 0 ∧ aT A = 0 then aDay A n else A
section MM
variable {σ : zSt} {A : zAb} {n m : Nat}
theorem m_clearPair (hM : zMr σ A) {h w : Nat} (hh : h < 12) (hw : w < 20) : zOk (F_Model_clearPair (nI h) (nI w) σ) (fun σ' => zMr σ' (aClr A h w) ∧ zfM σ σ') := by
  rw [F_Model_clearPair]
  refine z_forI (fun j k s => L_Model_clearPair j 0 (nI h) (nI w) (nI k) s) 9 (fun k s => zMr s (fun f i j => if 3 ≤ f ∧ f < 3 + k ∧ i = h ∧ j = w then 0 else A f i j) ∧ zfM σ s) _ (fun k s hk hI => ?_) (fun s hI => ?_) zK σ (zK_lt (by omega)) ⟨hM.cg (fun f i j => (if_neg (by omega)).symm), zfM.rf σ⟩
  · obtain ⟨σ2, e, M2, f2⟩ := m_setp hI.1 hh hw hk 0
    refine ⟨σ2, ⟨M2.cg ?_, hI.2.tr f2⟩, fun j => ?_⟩
    · intro f i j
      simp only [aup]
      repeat' split
      all_goals first | rfl | omega
    · try dsimp only
      rw [e_Model_clearPair_0, if_neg (show ¬ (9 : Int32) ≤ nI k from nI_ge (b := 9) hk (by decide)), e, Option.bind_some, nI_1]
  · obtain ⟨σ2, e, M2, f2⟩ := m_setp2 hI.1 hh hw (-1)
    refine ⟨σ2, ⟨M2.cg ?_, hI.2.tr f2⟩, fun j => ?_⟩
    · intro f i j
      simp only [aup, aClr]
      repeat' split
      all_goals first | rfl | omega
    · try dsimp only
      rw [e_Model_clearPair_0, if_pos (show (9 : Int32) ≤ nI 9 by decide), e, Option.bind_some]
theorem m_enter (hM : zMr σ A) {h w : Nat} (hh : h < 12) (hw : w < 20) (hops : Int32) : zOk (F_Model_enter (nI h) (nI w) hops σ) (fun σ' => zMr σ' (aEnter A h w hops) ∧ zfM σ σ') := by
  rw [F_Model_enter]
  refine zOk.bind (m_setp4 hM hh hw 1) (fun s2 ⟨M2, f2⟩ => ?_)
  rw [M2.sc (k := 8) (by decide)]
  refine zOk.bind (m_setp5 M2 hh hw _) (fun s3 ⟨M3, f3⟩ => ?_)
  refine zOk.bind (m_setp6 M3 hh hw _) (fun s4 ⟨M4, f4⟩ => ?_)
  exact ⟨_, rfl, M4.cg (fun f i j => by simp [aup, aEnter]), (f2.tr f3).tr f4⟩
theorem m_enterT (hM : zMr σ A) {h w : Nat} (hh : h < 12) (hw : w < 20) (hops : Int32) {t : Int32} (ht : A 0 8 0 = t) : zOk (F_Model_enter (nI h) (nI w) hops σ) (fun σ' => zMr σ' (aup (aup (aup A 7 h w 1) 8 h w t) 9 h w hops) ∧ zfM σ σ') := by
  subst ht
  exact m_enter hM hh hw hops
theorem m_appendHouse (hM : zMr σ A) (hn : A 0 6 0 = nI n) (hn12 : n < 12) (x y r b s : Int32) : zOk (F_Model_appendHouse x y r b s σ) (fun q => q.1 = nI n ∧ zMr q.2 (aHouse A n x y r b s) ∧ zfM σ q.2) := by
  rw [F_Model_appendHouse, (hM.sc (k := 6) (by decide)).trans hn]
  have two : ∀ j s3, 25 < j → zMr s3 (fun f i j => if f = 1 ∧ i = n ∧ j < 10 then aHv x y r b s j else A f i j) → zfM σ s3 → zOk (L_Model_appendHouse j 1 0 0 0 0 0 (nI n) 0 s3) (fun q => q.1 = nI n ∧ zMr q.2 (aHouse A n x y r b s) ∧ zfM σ q.2) := by
    intro j s3 hj M3 f3
    refine z_forI (fun j k s => L_Model_appendHouse j 1 0 0 0 0 0 (nI n) (nI k) s) 20 (fun k st => zMr st (fun f i j => if f = 1 ∧ i = n ∧ j < 10 then aHv x y r b s j else if 3 ≤ f ∧ f ≤ 11 ∧ i = n ∧ j < k then (if f = 5 then -1 else 0) else A f i j) ∧ zfM σ st) _ (fun k st hk hI => ?_) (fun st hI => ?_) j s3 (by omega) ⟨M3.cg (fun f i j => by simp), f3⟩
    · obtain ⟨s4, e, M4, f4⟩ := m_clearPair hI.1 hn12 hk
      refine ⟨s4, ⟨M4.cg ?_, hI.2.tr f4⟩, fun j => ?_⟩
      · intro f i j
        simp only [aClr]
        repeat' split
        all_goals first | rfl | omega
      · try dsimp only
        rw [e_Model_appendHouse_1, if_neg (show ¬ (20 : Int32) ≤ nI k from nI_ge (b := 20) hk (by decide)), e, Option.bind_some, nI_1]
    · refine ⟨(nI n, zst st 4 81 6 (nI n + 1)), ⟨rfl, ((hI.1.ps (k := 6) (by decide) (nI n + 1)).cg ?_), hI.2.tr (zfM.a81 _ _ _)⟩, fun j => ?_⟩
      · intro f i j
        simp only [aup, aHouse, nI_1]
        repeat' split
        all_goals first | rfl | omega
      · try dsimp only
        rw [e_Model_appendHouse_1, if_pos (show (20 : Int32) ≤ nI 20 by decide), hI.1.sc (k := 6) (by decide)]
        simp [hn]
  refine z_loopC (fun j k st => L_Model_appendHouse j 0 x y r b s (nI n) (nI k) st) 10 26 (fun k st => zMr st (fun f i j => if f = 1 ∧ i = n ∧ j < k then 0 else A f i j) ∧ zfM σ st) _ (fun k st hk hI j kk => ?_) (fun st hI j hj => ?_) zK σ (zK_lt (by omega)) ⟨hM.cg (fun f i j => by simp), zfM.rf σ⟩
  · try dsimp only
    rw [e_Model_appendHouse_0, if_neg (show ¬ (10 : Int32) ≤ nI k from nI_ge (b := 10) hk (by decide))]
    refine zOk.bind (m_put hI.1 hn12 hk 0) (fun s2 ⟨M2, f2⟩ => ?_)
    rw [nI_1]
    refine kk s2 ⟨M2.cg ?_, hI.2.tr f2⟩
    intro f i j
    simp only [aup]
    repeat' split
    all_goals first | rfl | omega
  · try dsimp only
    rw [e_Model_appendHouse_0, if_pos (show (10 : Int32) ≤ nI 10 by decide)]
    refine zOk.bind (m_put0 hI.1 hn12 x) (fun s1 ⟨M1, f1⟩ => ?_)
    refine zOk.bind (m_put1 M1 hn12 y) (fun s2 ⟨M2, f2⟩ => ?_)
    refine zOk.bind (m_put2 M2 hn12 r) (fun s3 ⟨M3, f3⟩ => ?_)
    refine zOk.bind (m_put3 M3 hn12 b) (fun s4 ⟨M4, f4⟩ => ?_)
    refine zOk.bind (m_put4 M4 hn12 s) (fun s5 ⟨M5, f5⟩ => ?_)
    refine zOk.bind (m_put5 M5 hn12 (-1)) (fun s6 ⟨M6, f6⟩ => ?_)
    refine zOk.bind (m_put6 M6 hn12 (-1)) (fun s7 ⟨M7, f7⟩ => ?_)
    refine two j s7 (by omega) (M7.cg ?_) (((((((hI.2.tr f1).tr f2).tr f3).tr f4).tr f5).tr f6).tr f7)
    intro f i j
    simp only [aup, aHv]
    repeat' split
    all_goals first | rfl | omega
theorem m_appendNews (hM : zMr σ A) (hm : A 0 7 0 = nI m) (hm20 : m < 20) {h : Nat} (hh : h < 12) (body : Int32) : zOk (F_Model_appendNews (nI h) body σ) (fun q => q.1 = nI m ∧ zMr q.2 (aTell A m h body) ∧ zfM σ q.2) := by
  rw [F_Model_appendNews, (hM.sc (k := 7) (by decide)).trans hm]
  refine z_loopC (fun j k st => L_Model_appendNews j 0 (nI h) body (nI m) (nI k) st) 12 0 (fun k st => zMr st (fun f i j => if 3 ≤ f ∧ f ≤ 11 ∧ i < k ∧ j = m then (if f = 5 then -1 else 0) else A f i j) ∧ zfM σ st) _ (fun k st hk hI j kk => ?_) (fun st hI j hj => ?_) zK σ (zK_lt (by omega)) ⟨hM.cg (fun f i j => by simp), zfM.rf σ⟩
  · try dsimp only
    rw [e_Model_appendNews_0, if_neg (show ¬ (12 : Int32) ≤ nI k from nI_ge (b := 12) hk (by decide))]
    refine zOk.bind (m_clearPair hI.1 hk hm20) (fun s2 ⟨M2, f2⟩ => ?_)
    rw [nI_1]
    refine kk s2 ⟨M2.cg ?_, hI.2.tr f2⟩
    intro f i j
    simp only [aClr]
    repeat' split
    all_goals first | rfl | omega
  · try dsimp only
    rw [e_Model_appendNews_0, if_pos (show (12 : Int32) ≤ nI 12 by decide)]
    refine zOk.bind (m_tell0 hI.1 hm20 (nI h)) (fun s1 ⟨M1, f1⟩ => ?_)
    have e8 : s1.1 4 81 8 = A 0 8 0 := (M1.sc (by decide)).trans (by simp [aup])
    rw [e8]
    refine zOk.bind (m_tell1 M1 hm20 _) (fun s2 ⟨M2, f2⟩ => ?_)
    refine zOk.bind (m_tell2 M2 hm20 body) (fun s3 ⟨M3, f3⟩ => ?_)
    refine zOk.bind (m_tell3 M3 hm20 (-1)) (fun s4 ⟨M4, f4⟩ => ?_)
    refine zOk.bind (m_tell4 M4 hm20 (-1)) (fun s5 ⟨M5, f5⟩ => ?_)
    refine zOk.bind (m_tell5 M5 hm20 (-1)) (fun s6 ⟨M6, f6⟩ => ?_)
    rw [M6.sc (k := 7) (by decide)]
    have M7 := M6.ps (k := 7) (by decide) (nI m + 1)
    have hv : ∀ v, v = nI m + 1 → zOk ((F_Model_setPair (nI h) (nI m) 0 1 (zst s6 4 81 7 v)).bind fun σ14 => (F_Model_enter (nI h) (nI m) 0 σ14).bind fun σ16 => some (nI m, σ16)) (fun q => q.1 = nI m ∧ zMr q.2 (aTell A m h body) ∧ zfM σ q.2) := by
      rintro v rfl
      refine zOk.bind (m_setp0 M7 hh hm20 1) (fun s8 ⟨M8, f8⟩ => ?_)
      refine zOk.bind (m_enterT M8 hh hm20 0 (t := A 0 8 0) (by simp [aup])) (fun s9 ⟨M9, f9⟩ => ?_)
      refine ⟨_, rfl, rfl, M9.cg ?_, (((((((((hI.2.tr f1).tr f2).tr f3).tr f4).tr f5).tr f6).tr (zfM.a81 _ _ _)).tr f8).tr f9)⟩
      intro f i j
      simp only [aup, aTell, nI_1]
      by_cases c0 : f = 0
      · subst c0; simp
      · by_cases c2 : f = 2
        · subst c2
          simp only [show ¬ (2 = 9) by decide, show ¬ (2 = 8) by decide, show ¬ (2 = 7) by decide, show ¬ (2 = 3) by decide, show ¬ (2 = 0) by decide, show ¬ (3 ≤ 2) by decide, false_and, if_false, true_and]
          repeat' split
          all_goals first | rfl | omega | (simp; done)
        · simp only [c0, c2, false_and, if_false]
          repeat' split
          all_goals try (first | rfl | omega | (simp; done))
    refine hv _ ?_
    simp [aup, hm]
theorem m_learn (hM : zMr σ A) (hZ : zSz A n m) {h w : Nat} (hh : h < 12) (hw : w < 20) : zOk (F_Model_learn (nI h) (nI w) σ) (fun σ' => zMr σ' (aLearn A n h w) ∧ zfM σ σ') := by
  rw [F_Model_learn]
  refine zOk.bind (m_setp1 hM hh hw 1) (fun s1 ⟨M1, f1⟩ => ?_)
  refine zOk.bind (m_setp4 M1 hh hw 0) (fun s2 ⟨M2, f2⟩ => ?_)
  have hZ2 : zSz (aup (aup A 4 h w 1) 7 h w 0) n m := by simpa [zSz, aup] using hZ
  refine zOk.eq (m_owedBy M2 hZ2 hh hw) ?_
  refine zOk.ite (fun c => ?_) (fun c => ?_)
  · have e : aLearn A n h w = aup (aup A 4 h w 1) 7 h w 0 := if_pos c
    rw [e]
    exact ⟨_, rfl, M2, f1.tr f2⟩
  · have e : aLearn A n h w = aup (aup (aup (aup A 4 h w 1) 7 h w 0) 10 h w 1) 11 h w (A 0 8 0) := if_neg c
    rw [e]
    refine zOk.bind (m_setp7 M2 hh hw 1) (fun s3 ⟨M3, f3⟩ => ?_)
    rw [M3.sc (k := 8) (by decide)]
    refine zOk.bind (m_setp8 M3 hh hw _) (fun s4 ⟨M4, f4⟩ => ?_)
    refine ⟨_, rfl, M4.cg (fun f i j => by simp [aup]), ((f1.tr f2).tr f3).tr f4⟩
theorem m_begin (hM : zMr σ A) (hZ : zSz A n m) (hd : A 0 5 0 ≠ 0) : zOk (F_Model_beginMinute σ) (fun σ' => zMr σ' (aBegin A n) ∧ zfM σ σ') := by
  obtain ⟨hn, hm, hn12, hm20⟩ := hZ
  have none_ : zOk (L_Model_beginMinute zK 0 0 0 σ) (fun σ' => zMr σ' A ∧ zfM σ σ') := by
    show zOk (L_Model_beginMinute (99999 + 1) 0 0 0 σ) _
    rw [e_Model_beginMinute_0]
    refine zOk.ite (fun c => ⟨_, rfl, hM, zfM.rf σ⟩) (fun c => zOk.pos rfl ⟨_, rfl, hM, zfM.rf σ⟩)
  rw [F_Model_beginMinute, hM.sc (k := 8) (by decide), hM.sc (k := 5) (by decide)]
  refine zOk.ite (fun c => ?_) (fun c => zOk.pos hd ?_)
  · rw [show aBegin A n = A from if_neg (fun q => by rw [Int32.lt_iff_toInt_lt] at q; rw [Int32.le_iff_toInt_le] at c; omega)]
    exact none_
  · refine zOk.ite (fun c2 => ?_) (fun c2 => ?_)
    · have c3 : 0 < A 0 8 0 := by
        rw [Int32.le_iff_toInt_le] at c; rw [Int32.lt_iff_toInt_lt]; omega
      rw [show aBegin A n = aDay A n from if_pos ⟨c3, c2⟩]
      refine z_loopC (fun j k st => L_Model_beginMinute j 0 1 (nI k) st) n 0 (fun k st => zMr st (aDay A k) ∧ zfM σ st) _ (fun k st hk hI j kk => ?_) (fun st hI j hj => ?_) zK σ (zK_lt (by omega)) ⟨hM.cg (fun f i j => by simp [aDay]), zfM.rf σ⟩
      · try dsimp only
        have e6 : aDay A k 0 6 0 = nI n := by simpa [aDay] using hn
        rw [e_Model_beginMinute_0, (hI.1.sc (k := 6) (by decide)).trans e6, if_neg (nI_ge hk (by omega)), if_neg (by decide)]
        refine zOk.eq (m_of3 hI.1 (by omega)) ?_
        rw [hI.1.sc (k := 2) (by decide)]
        refine zOk.bind (m_put3 hI.1 (by omega) _) (fun s2 ⟨M2, f2⟩ => ?_)
        refine zOk.bind (m_put7 M2 (by omega) _) (fun s3 ⟨M3, f3⟩ => ?_)
        rw [nI_1]
        refine kk s3 ⟨M3.cg ?_, (hI.2.tr f2).tr f3⟩
        intro f i j
        simp only [aup, aDay, aBat]
        have q : ¬ k < k := Nat.lt_irrefl k
        simp only [q, false_and, and_false, if_false, show ¬ (0 = 1) by decide]
        repeat' split
        all_goals try (first | rfl | omega | (obtain ⟨_, h2, _⟩ := ‹f = 1 ∧ i = k ∧ j = 3›; subst h2; simp_all; done))
      · try dsimp only
        have e6 : aDay A n 0 6 0 = nI n := by simpa [aDay] using hn
        rw [e_Model_beginMinute_0, (hI.1.sc (k := 6) (by decide)).trans e6, if_pos (nI_le0 (by omega))]
        exact ⟨_, rfl, hI⟩
    · rw [show aBegin A n = A from if_neg (fun q => c2 q.2)]
      exact none_

end MM
