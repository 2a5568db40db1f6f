/-! a minute -/
def aSp (A : zAb) (s : Nat) : zAb := aup (aup (aup (aup (aup A 1 s 3 (A 1 s 3 - A 0 0 0)) 1 s 7 (A 1 s 7 + 1)) 1 s 8 (A 1 s 8 + 1)) 0 10 0 (A 0 10 0 + 1)) 13 23 0 (A 13 23 0 + A 0 0 0)
def aHd (A : zAb) (s h : Nat) : Bool := aRng A s h && !aQuiet A h (aT A) && !decide (A 1 h 3 < A 0 1 0)
def aSd (B : zAb) (hd : Nat → Bool) (k : Nat) : zAb := fun f i j => if f = 1 ∧ i < k ∧ j = 3 ∧ hd i = true then B 1 i 3 - B 0 1 0 else if f = 13 ∧ i = 23 ∧ j = 0 then B 13 23 0 + B 0 1 0 * nI (fb_ct hd k) else B f i j
def aGet (A : zAb) (s w h : Nat) (hops : Int32) : zAb := if A 0 4 0 < hops then aup (aup (aup A 3 h w 1) 5 h w (nI s)) 6 h w hops else aup (aup (aup (aup (aup (aup A 3 h w 1) 5 h w (nI s)) 6 h w hops) 7 h w 1) 8 h w (A 0 8 0)) 9 h w hops
def aTk (A : zAb) (c : Bool) (w h : Nat) : Bool := !decide (A 4 h w = 1) && (c || !decide (A 3 h w = 1))
def aTake (A : zAb) (n s w : Nat) (c : Bool) (hops : Int32) (h : Nat) : zAb := if c = true then aup (aLearn A n h w) 13 22 0 (A 13 22 0 + 1) else aup (aGet A s w h hops) 13 21 0 (A 13 21 0 + 1)
def aPr (A : zAb) (n s w : Nat) (c : Bool) (hops : Int32) (hd : Nat → Bool) : Nat → zAb
  | 0 => A
  | k + 1 => if (hd k && aTk (aPr A n s w c hops hd k) c w k) = true then aTake (aPr A n s w c hops hd k) n s w c hops k else aPr A n s w c hops hd k
def aCb (S Q : zAb) : zAb := fun f i j => if f = 1 ∨ (f = 13 ∧ i = 23) then S f i j else Q f i j
theorem aCb_up {S Q : zAb} {f i j : Nat} {v : Int32} (h1 : f ≠ 1) (h2 : f = 13 → i ≠ 23) : aup (aCb S Q) f i j v = aCb S (aup Q f i j v) := by
  funext f' i' j'
  simp only [aup, aCb]
  repeat' split
  all_goals first | rfl | omega
theorem aOws_cg {A B : zAb} {n h w : Nat} (h4 : ∀ i, i < n ∨ i = h → A 4 i w = B 4 i w) (h5 : ∀ i, i < n ∨ i = h → A 5 i w = B 5 i w) : aOws A n h w = aOws B n h w := by
  unfold aOws
  refine zm_congr (fun i hi => ?_)
  unfold aOw
  rw [h4 i (Or.inl hi), h4 h (Or.inr rfl), h5 i (Or.inl hi), h5 h (Or.inr rfl)]
theorem aLearn_cb {S Q : zAb} {n h w : Nat} : aLearn (aCb S Q) n h w = aCb S (aLearn Q n h w) := by
  have e : aOws (aup (aup (aCb S Q) 4 h w 1) 7 h w 0) n h w = aOws (aup (aup Q 4 h w 1) 7 h w 0) n h w := aOws_cg (fun i _ => by simp [aup, aCb]) (fun i _ => by simp [aup, aCb])
  unfold aLearn
  rw [e, show aCb S Q 0 8 0 = Q 0 8 0 by simp [aCb]]
  split
  · rw [aCb_up (by decide) (fun z => absurd z (by decide)), aCb_up (by decide) (fun z => absurd z (by decide))]
  · rw [aCb_up (by decide) (fun z => absurd z (by decide)), aCb_up (by decide) (fun z => absurd z (by decide)), aCb_up (by decide) (fun z => absurd z (by decide)), aCb_up (by decide) (fun z => absurd z (by decide))]
theorem aGet_cb {S Q : zAb} {s w h : Nat} {hops : Int32} : aGet (aCb S Q) s w h hops = aCb S (aGet Q s w h hops) := by
  unfold aGet
  rw [show aCb S Q 0 8 0 = Q 0 8 0 by simp [aCb], show aCb S Q 0 4 0 = Q 0 4 0 by simp [aCb]]
  split
  · rw [aCb_up (by decide) (fun z => absurd z (by decide)), aCb_up (by decide) (fun z => absurd z (by decide)), aCb_up (by decide) (fun z => absurd z (by decide))]
  · rw [aCb_up (by decide) (fun z => absurd z (by decide)), aCb_up (by decide) (fun z => absurd z (by decide)), aCb_up (by decide) (fun z => absurd z (by decide)), aCb_up (by decide) (fun z => absurd z (by decide)), aCb_up (by decide) (fun z => absurd z (by decide)), aCb_up (by decide) (fun z => absurd z (by decide))]
theorem aTake_cb {S Q : zAb} {n s w h : Nat} {c : Bool} {hops : Int32} : aTake (aCb S Q) n s w c hops h = aCb S (aTake Q n s w c hops h) := by
  unfold aTake
  rw [show aCb S Q 13 22 0 = Q 13 22 0 by simp [aCb], show aCb S Q 13 21 0 = Q 13 21 0 by simp [aCb], aLearn_cb, aGet_cb]
  split
  · rw [aCb_up (by decide) (fun _ => by decide)]
  · rw [aCb_up (by decide) (fun _ => by decide)]
theorem aTake_out {A : zAb} {n s w h : Nat} {c : Bool} {hops : Int32} {f i j : Nat} (hf : f < 3 ∨ f = 12 ∨ (3 ≤ f ∧ f ≤ 11 ∧ ¬ (i = h ∧ j = w))) : aTake A n s w c hops h f i j = A f i j := by
  have a1 : ∀ (B : zAb) (F : Nat) (v : Int32), 3 ≤ F → F ≤ 11 → aup B F h w v f i j = B f i j := fun B F v h1 h2 => by
    rw [aup, if_neg (by omega)]
  have a2 : ∀ (B : zAb) (I : Nat) (v : Int32), aup B 13 I 0 v f i j = B f i j := fun B I v => by
    rw [aup, if_neg (by omega)]
  unfold aTake aLearn aGet
  repeat' split
  all_goals simp [a1, a2]
theorem aPr_out {A : zAb} {n s w : Nat} {c : Bool} {hops : Int32} {hd : Nat → Bool} {f i j : Nat} : ∀ {k : Nat}, (f < 3 ∨ f = 12 ∨ (3 ≤ f ∧ f ≤ 11 ∧ ¬ (i < k ∧ j = w ∧ hd i = true))) → aPr A n s w c hops hd k f i j = A f i j
  | 0, _ => rfl
  | k + 1, hf => by
    have ih := aPr_out (A := A) (n := n) (s := s) (w := w) (c := c) (hops := hops) (hd := hd) (f := f) (i := i) (j := j) (k := k) (hf.imp id (Or.imp id (fun ⟨a, b, c⟩ => ⟨a, b, fun ⟨u, v, z⟩ => c ⟨by omega, v, z⟩⟩)))
    rw [aPr]
    by_cases q : (hd k && aTk (aPr A n s w c hops hd k) c w k) = true
    · rw [if_pos q, aTake_out, ih]
      have q1 : hd k = true := by
        rw [Bool.and_eq_true] at q; exact q.1
      rcases hf with x | x | ⟨x, y, z⟩
      · exact Or.inl x
      · exact Or.inr (Or.inl x)
      · refine Or.inr (Or.inr ⟨x, y, fun ⟨u, v⟩ => z ⟨by omega, v, by rw [u]; exact q1⟩⟩)
    · rw [if_neg q, ih]
def aNv (A : zAb) (s : Nat) (c : Bool) (w : Nat) (hm tm : Int32) (j : Nat) : Int32 := if j = 0 then A 0 8 0 else if j = 1 then nI s else if j = 2 then bI c else if j = 3 then nI w else if j = 4 then hm else tm
def aNote (A : zAb) (s : Nat) (c : Bool) (w : Nat) (hm tm : Int32) : zAb := fun f i j => if f = 12 ∧ i < 30 ∧ j < 6 then (if i = 0 then aNv A s c w hm tm j else A 12 (i - 1) j) else if f = 0 ∧ i = 11 ∧ j = 0 then (if A 0 11 0 + 1 < 30 then A 0 11 0 + 1 else 30) else A f i j
def aPaid (A : zAb) (n m : Nat) : zAb := fun f i j => if f = 10 ∧ i < n ∧ j < m ∧ A 10 i j = 1 ∧ aOws A n i j = 0 then 0 else A f i j
def aSpeak (A : zAb) (n s w : Nat) (c : Bool) : zAb :=
  let B := aSp A s
  let hd := aHd B s
  let hops := B 9 s w + 1
  let N := aNote (aCb (aSd B hd n) (aPr B n s w c hops hd n)) s c w (zm hd n) (zm (fun k => hd k && aTk (aPr B n s w c hops hd k) c w k) n)
  if c = true then aup N 11 s w (A 0 8 0 + 1) else aup N 7 s w 0
def aMin (A : zAb) (n m : Nat) : zAb :=
  let A1 := aBegin A n
  let A3 := if zm (aWish A1 n m) n = 0 then A1 else match aFirst A1 n m (aSpk A1 n m) with
    | some e => aSpeak (aDrawn A1 n m) n (aSpk A1 n m) (e / 2) (decide (e % 2 = 1))
    | none => A1
  aup (aPaid A3 n m) 0 8 0 (A 0 8 0 + 1)
section MP
variable {σ : zSt} {A : zAb} {n m : Nat}
theorem m_hearNews (hM : zMr σ A) {h s w : Nat} (hh : h < 12) (hs : s < 12) (hw : w < 20) : zOk (F_Model_hearNews (nI h) (nI s) (nI w) σ) (fun σ' => zMr σ' (aup (aGet A s w h (A 9 s w + 1)) 13 21 0 (A 13 21 0 + 1)) ∧ zfM σ σ') := by
  rw [F_Model_hearNews]
  refine zOk.eq (m_pair6 hM hs hw) ?_
  refine zOk.bind (m_setp0 hM hh hw 1) (fun s1 ⟨M1, f1⟩ => ?_)
  refine zOk.bind (m_setp2 M1 hh hw (nI s)) (fun s2 ⟨M2, f2⟩ => ?_)
  refine zOk.bind (m_setp3 M2 hh hw (A 9 s w + 1)) (fun s3 ⟨M3, f3⟩ => ?_)
  have e4 : s3.1 4 81 4 = A 0 4 0 := (M3.sc (by decide)).trans (by simp [aup])
  rw [e4]
  unfold aGet
  refine zOk.ite (fun q => ?_) (fun q => ?_)
  · have e21 : s3.1 4 80 21 = A 13 21 0 := M3.2.1.trans (by simp [aup])
    rw [if_pos q, e21]
    exact ⟨_, rfl, M3.c21 _, ((f1.tr f2).tr f3).tr (zfM.a80 _ (by decide) _)⟩
  · refine zOk.bind (m_enterT M3 hh hw (A 9 s w + 1) (t := A 0 8 0) (by simp [aup])) (fun s4 ⟨M4, f4⟩ => ?_)
    have e21 : s4.1 4 80 21 = A 13 21 0 := M4.2.1.trans (by simp [aup])
    rw [if_neg q, e21]
    exact ⟨_, rfl, M4.c21 _, (((f1.tr f2).tr f3).tr f4).tr (zfM.a80 _ (by decide) _)⟩
theorem m_hear (hM : zMr σ A) (hZ : zSz A n m) {h s w : Nat} {c : Bool} {e : Nat} (he : e / 2 = w ∧ decide (e % 2 = 1) = c) (hh : h < 12) (hs : s < 12) (hw : w < 20) : zOk (F_Model_hear (nI h) (nI s) (nI e) σ) (fun q => q.1 = bI (aTk A c w h) ∧ zfM σ q.2 ∧
    zMr q.2 (if aTk A c w h = true then aTake (aup (aup A 1 h 3 (A 1 h 3 - A 0 1 0)) 13 23 0 (A 13 23 0 + A 0 1 0)) n s w c (A 9 s w + 1) h else aup (aup A 1 h 3 (A 1 h 3 - A 0 1 0)) 13 23 0 (A 13 23 0 + A 0 1 0))) := by
  obtain ⟨rfl, rfl⟩ := he
  have he40 : e < 40 := by omega
  rw [F_Model_hear, hM.sc (k := 1) (by decide), m_half (by omega)]
  refine zOk.eq (m_of3 hM hh) ?_
  refine zOk.bind (m_put3 hM hh _) (fun s1 ⟨M1, f1⟩ => ?_)
  have e1 : s1.1 4 81 1 = A 0 1 0 := (M1.sc (by decide)).trans (by simp [aup])
  have e23 : s1.1 4 80 23 = A 13 23 0 := M1.2.2.2.trans (by simp [aup])
  rw [e1, e23]
  have M2 := M1.c23 (A 13 23 0 + A 0 1 0)
  have f2 := f1.tr (zfM.a80 s1 (i := 23) (by decide) (A 13 23 0 + A 0 1 0))
  generalize zst s1 4 80 23 (A 13 23 0 + A 0 1 0) = s2 at M2 f2 ⊢
  generalize hD : aup (aup A 1 h 3 (A 1 h 3 - A 0 1 0)) 13 23 0 (A 13 23 0 + A 0 1 0) = D at M2 ⊢
  have d4 : D 4 h (e / 2) = A 4 h (e / 2) := by rw [← hD]; simp [aup]
  have d3 : D 3 h (e / 2) = A 3 h (e / 2) := by rw [← hD]; simp [aup]
  have d9 : D 9 s (e / 2) = A 9 s (e / 2) := by rw [← hD]; simp [aup]
  have hZ2 : zSz D n m := by rw [← hD]; simpa [zSz, aup] using hZ
  refine zOk.eq (m_pair1 M2 hh hw) ?_
  rw [d4]
  unfold aTk
  refine zOk.ite (fun q => ?_) (fun q => ?_)
  · exact ⟨_, rfl, by simp [q, bI], f2, by simpa [q] using M2⟩
  · refine zOk.eq (m_isCorrection (by omega)) ?_
    have hear73 : (decide (e % 2 = 1) || !decide (A 3 h (e / 2) = 1)) = true → zOk (B_Model_hear_73 (nI h) (nI s) (nI e) (nI (e / 2)) s2) (fun q => q.1 = bI (!decide (A 4 h (e / 2) = 1) && (decide (e % 2 = 1) || !decide (A 3 h (e / 2) = 1))) ∧ zfM σ q.2 ∧
        zMr q.2 (if (!decide (A 4 h (e / 2) = 1) && (decide (e % 2 = 1) || !decide (A 3 h (e / 2) = 1))) = true then aTake D n s (e / 2) (decide (e % 2 = 1)) (A 9 s (e / 2) + 1) h else D)) := by
      intro ht
      rw [B_Model_hear_73]
      refine zOk.eq (m_isCorrection (by omega)) ?_
      have tt : (!decide (A 4 h (e / 2) = 1) && (decide (e % 2 = 1) || !decide (A 3 h (e / 2) = 1))) = true := by rw [ht]; simp [q]
      rw [tt]
      unfold aTake
      by_cases c : e % 2 = 1
      · refine zOk.neg (by simp [c, bI]) ?_
        refine zOk.bind (m_learn M2 hZ2 hh hw) (fun s3 ⟨M3, f3⟩ => ?_)
        have e22 : s3.1 4 80 22 = D 13 22 0 := M3.2.2.1.trans (by unfold aLearn; split <;> simp [aup])
        rw [e22]
        refine ⟨_, rfl, rfl, (f2.tr f3).tr (zfM.a80 _ (by decide) _), ?_⟩
        rw [if_pos rfl, if_pos (by simpa using c)]
        exact M3.c22 _
      · refine zOk.pos (by simp [c, bI]) ?_
        refine zOk.bind (m_hearNews M2 hh hs hw) (fun s3 ⟨M3, f3⟩ => ?_)
        refine ⟨_, rfl, rfl, f2.tr f3, ?_⟩
        rw [if_pos rfl, if_neg (by simpa using c), ← d9]
        exact M3
    by_cases c : e % 2 = 1
    · refine zOk.neg (by simp [c, bI]) (hear73 (by simp [c]))
    · refine zOk.pos (by simp [c, bI]) ?_
      refine zOk.eq (m_pair0 M2 hh hw) ?_
      rw [d3]
      refine zOk.ite (fun q2 => ?_) (fun q2 => hear73 (by simp [q2]))
      exact ⟨_, rfl, by simp [q2, c, bI], f2, by simpa [q2, c] using M2⟩
theorem m_note (hM : zMr σ A) {s w e : Nat} {c : Bool} (he : e / 2 = w ∧ decide (e % 2 = 1) = c) (he40 : e < 40) (hm tm : Int32) : zOk (F_Model_note (nI s) (nI e) hm tm σ) (fun σ' => zMr σ' (aNote A s c w hm tm) ∧ zfM σ σ') := by
  obtain ⟨rfl, rfl⟩ := he
  rw [F_Model_note]
  have fin : ∀ j st, (∀ a, st.1 4 81 a = if 2417 < a ∧ a < 2592 then σ.1 4 81 (a - 6) else σ.1 4 81 a) → zfM σ st → (∀ i, 20 < i → st.1 4 80 i = σ.1 4 80 i) → zOk (L_Model_note (j + 1) 1 0 (nI e) hm tm 0 2414 (bI (decide (e % 2 = 1))) (zst (zst st 4 81 2412 (A 0 8 0)) 4 81 2413 (nI s))) (fun σ' => zMr σ' (aNote A s (decide (e % 2 = 1)) (e / 2) hm tm) ∧ zfM σ σ') := by
    intro j st ha hf h80
    have e11 : st.1 4 81 11 = A 0 11 0 := by rw [ha, if_neg (by omega)]; exact hM.sc (by decide)
    rw [e_Model_note_1, show (2414 : Int32) = nI 2414 from rfl, if_pos (inb_n (by decide) (by decide)), nI_clamp (by decide), m_half (by omega)]
    have x11 : (zst (zst (zst (zst (zst (zst st 4 81 2412 (A 0 8 0)) 4 81 2413 (nI s)) 4 81 2414 (bI (decide (e % 2 = 1)))) 4 81 2415 (nI (e / 2))) 4 81 2416 hm) 4 81 2417 tm).1 4 81 11 = A 0 11 0 := by
      simp only [zst_at]
      simp [e11]
    rw [x11]
    refine ⟨_, rfl, ⟨?_, ?_, ?_, ?_⟩, ((((((hf.tr (zfM.a81 _ _ _)).tr (zfM.a81 _ _ _)).tr (zfM.a81 _ _ _)).tr (zfM.a81 _ _ _)).tr (zfM.a81 _ _ _)).tr (zfM.a81 _ _ _)).tr (zfM.a81 _ _ _)⟩
    · obtain ⟨m0, m1, m2, m3, m4⟩ := hM.1
      refine ⟨fun k hk => ?_, fun h k hh hk => ?_, fun w k hw hk => ?_, fun p h w hp hh hw => ?_, fun i k hi hk => ?_⟩
      · simp only [zst_at, true_and, aNote]
        by_cases q : k = 11
        · subst q; simp
        · rw [if_neg q, if_neg (by omega), if_neg (by omega), if_neg (by omega), if_neg (by omega), if_neg (by omega), if_neg (by omega), ha, if_neg (by omega), m0 k hk, if_neg (by omega), if_neg (by omega)]
      · simp only [zst_at, true_and, aNote]
        rw [if_neg (by omega), if_neg (by omega), if_neg (by omega), if_neg (by omega), if_neg (by omega), if_neg (by omega), if_neg (by omega), ha, if_neg (by omega), m1 h k hh hk, if_neg (by omega), if_neg (by omega)]
      · simp only [zst_at, true_and, aNote]
        rw [if_neg (by omega), if_neg (by omega), if_neg (by omega), if_neg (by omega), if_neg (by omega), if_neg (by omega), if_neg (by omega), ha, if_neg (by omega), m2 w k hw hk, if_neg (by omega), if_neg (by omega)]
      · simp only [zst_at, true_and, aNote]
        rw [if_neg (by omega), if_neg (by omega), if_neg (by omega), if_neg (by omega), if_neg (by omega), if_neg (by omega), if_neg (by omega), ha, if_neg (by omega), m3 p h w hp hh hw, if_neg (by omega), if_neg (by omega)]
      · simp only [zst_at, true_and, aNote]
        rw [if_neg (by omega), if_pos (show i < 30 ∧ k < 6 from ⟨hi, hk⟩)]
        by_cases q : i = 0
        · subst q
          unfold aNv
          rcases (show k = 0 ∨ k = 1 ∨ k = 2 ∨ k = 3 ∨ k = 4 ∨ k = 5 by omega) with rfl | rfl | rfl | rfl | rfl | rfl <;> simp
        · rw [if_neg (by omega), if_neg (by omega), if_neg (by omega), if_neg (by omega), if_neg (by omega), if_neg (by omega), ha, if_pos (by omega), if_neg q, ← m4 (i - 1) k (by omega) hk, show 2412 + 6 * i + k - 6 = 2412 + 6 * (i - 1) + k by omega]
    · simp only [zst_at, aNote]; simp [h80, hM.2.1]
    · simp only [zst_at, aNote]; simp [h80, hM.2.2.1]
    · simp only [zst_at, aNote]; simp [h80, hM.2.2.2]
  have key : ∀ d j st, d ≤ 174 → d + 2 < j → (∀ a, st.1 4 81 a = if 2417 + d < a ∧ a < 2592 then σ.1 4 81 (a - 6) else σ.1 4 81 a) → zfM σ st → (∀ i, 20 < i → st.1 4 80 i = σ.1 4 80 i) → zOk (L_Model_note j 0 (nI s) (nI e) hm tm (nI (5 + d)) 0 0 st) (fun σ' => zMr σ' (aNote A s (decide (e % 2 = 1)) (e / 2) hm tm) ∧ zfM σ σ') := by
    intro d
    induction d with
    | zero =>
      intro j st hd hj ha hf h80
      obtain ⟨j, rfl⟩ : ∃ j', j = j' + 2 := ⟨j - 2, by omega⟩
      have e8 : st.1 4 81 8 = A 0 8 0 := by rw [ha, if_neg (by omega)]; exact hM.sc (by decide)
      rw [e_Model_note_0, if_pos (show nI (5 + 0) < 6 by decide), e8]
      refine zOk.eq (m_isCorrection (by omega)) ?_
      have := fin j st ha hf h80
      refine zOk.ite (fun q => ?_) (fun q => ?_)
      · rw [q] at this; exact this
      · rw [show bI (decide (e % 2 = 1)) = 1 from (bI_01 _).resolve_left q] at this; exact this
    | succ d ih =>
      intro j st hd hj ha hf h80
      obtain ⟨j, rfl⟩ : ∃ j', j = j' + 1 := ⟨j - 1, by omega⟩
      rw [e_Model_note_0, if_neg (show ¬ nI (5 + (d + 1)) < 6 from nI_nlt (b := 6) (by omega) (by omega)), show (2412 : Int32) = nI 2412 from rfl, nI_add, show (6 : Int32) = nI 6 from rfl, pk_sub (by omega), if_pos (inb_n (by omega) (by decide)), if_pos (inb_n (by omega) (by decide)), nI_clamp (by omega), nI_clamp (by omega), show 5 + (d + 1) = (5 + d) + 1 by omega, pk_m1]
      refine ih j _ (by omega) (by omega) (fun a => ?_) (hf.tr (zfM.a81 _ _ _)) (fun i hi => by rw [zst_at, if_neg (by omega), h80 i hi])
      rw [zst_at]
      by_cases q : a = 2412 + (5 + d + 1)
      · subst q
        rw [if_pos ⟨rfl, rfl, rfl⟩, if_pos (by omega), ha, if_neg (by omega)]
      · rw [if_neg (by omega), ha]
        by_cases q2 : 2417 + (d + 1) < a ∧ a < 2592
        · rw [if_pos q2, if_pos (by omega)]
        · rw [if_neg q2, if_neg (by omega)]
  exact key 174 zK σ (by omega) (zK_lt (by omega)) (fun a => by rw [if_neg (by omega)]) (zfM.rf σ) (fun _ _ => rfl)
theorem m_removePaid (hM : zMr σ A) (hZ : zSz A n m) : zOk (F_Model_removePaid σ) (fun σ' => zMr σ' (aPaid A n m) ∧ zfM σ σ') := by
  obtain ⟨hn, hm, hn12, hm20⟩ := hZ
  rw [F_Model_removePaid]
  -- the houses below h and, of h, the news below w are done
  have st : ∀ h w st, h ≤ n → zMr st (fun f i j => if f = 10 ∧ (i < h ∨ (i = h ∧ j < w)) ∧ i < n ∧ j < m ∧ A 10 i j = 1 ∧ aOws A n i j = 0 then 0 else A f i j) → zSz (fun f i j => if f = 10 ∧ (i < h ∨ (i = h ∧ j < w)) ∧ i < n ∧ j < m ∧ A 10 i j = 1 ∧ aOws A n i j = 0 then 0 else A f i j) n m := fun h w st _ _ => by
    simpa [zSz] using ⟨hn, hm, hn12, hm20⟩
  have key : ∀ d h j st, h + d = n → d * (m + 2) < j → zMr st (fun f i j => if f = 10 ∧ (i < h ∨ (i = h ∧ j < 0)) ∧ i < n ∧ j < m ∧ A 10 i j = 1 ∧ aOws A n i j = 0 then 0 else A f i j) ∧ zfM σ st → zOk (L_Model_removePaid j 0 (nI h) 0 st) (fun σ' => zMr σ' (aPaid A n m) ∧ zfM σ σ') := by
    intro d
    induction d with
    | zero =>
      intro h j st hh hj hI
      obtain ⟨j, rfl⟩ : ∃ j', j = j' + 1 := ⟨j - 1, by omega⟩
      have e6 : st.1 4 81 6 = nI n := (hI.1.sc (by decide)).trans (by simpa using hn)
      have : h = n := by omega
      subst this
      rw [e_Model_removePaid_0, e6, if_pos (nI_le0 (by omega))]
      refine ⟨_, rfl, hI.1.cg (fun f i j => ?_), hI.2⟩
      simp only [aPaid]
      by_cases q : f = 10 ∧ i < h ∧ j < m ∧ A 10 i j = 1 ∧ aOws A h i j = 0
      · rw [if_pos q, if_pos ⟨q.1, Or.inl q.2.1, q.2⟩]
      · rw [if_neg q, if_neg (fun z => q ⟨z.1, z.2.2⟩)]
    | succ d ih =>
      intro h j st0 hh hj hI
      rw [Nat.succ_mul] at hj
      obtain ⟨j, rfl⟩ : ∃ j', j = j' + 1 := ⟨j - 1, by omega⟩
      have e6 : st0.1 4 81 6 = nI n := (hI.1.sc (by decide)).trans (by simpa using hn)
      rw [e_Model_removePaid_0, e6, if_neg (nI_ge (by omega) (by omega))]
      refine z_loopC (fun j w st => L_Model_removePaid j 1 (nI h) (nI w) st) m (d * (m + 2) + 1) (fun w st => zMr st (fun f i j => if f = 10 ∧ (i < h ∨ (i = h ∧ j < w)) ∧ i < n ∧ j < m ∧ A 10 i j = 1 ∧ aOws A n i j = 0 then 0 else A f i j) ∧ zfM σ st) _ (fun w s hw hI j kk => ?_) (fun s hI j hj => ?_) j st0 (by omega) hI
      · try dsimp only
        have hZ2 := st h w s (by omega) hI.1
        rw [e_Model_removePaid_1, (hI.1.sc (k := 7) (by decide)).trans hZ2.2.1, if_neg (nI_ge hw (by omega))]
        refine zOk.eq (m_pair7 hI.1 (by omega) (by omega)) ?_
        have p10 : (if 10 = 10 ∧ (h < h ∨ (h = h ∧ w < w)) ∧ h < n ∧ w < m ∧ A 10 h w = 1 ∧ aOws A n h w = 0 then (0 : Int32) else A 10 h w) = A 10 h w := if_neg (by omega)
        have ow : aOws (fun f i j => if f = 10 ∧ (i < h ∨ (i = h ∧ j < w)) ∧ i < n ∧ j < m ∧ A 10 i j = 1 ∧ aOws A n i j = 0 then 0 else A f i j) n h w = aOws A n h w := aOws_cg (fun i _ => by simp) (fun i _ => by simp)
        rw [p10, nI_1]
        have skip : ¬ (A 10 h w = 1 ∧ aOws A n h w = 0) → zMr s (fun f i j => if f = 10 ∧ (i < h ∨ (i = h ∧ j < w + 1)) ∧ i < n ∧ j < m ∧ A 10 i j = 1 ∧ aOws A n i j = 0 then 0 else A f i j) := fun z => hI.1.cg (fun f i j => by
          by_cases q : f = 10 ∧ (i < h ∨ (i = h ∧ j < w)) ∧ i < n ∧ j < m ∧ A 10 i j = 1 ∧ aOws A n i j = 0
          · rw [if_pos q, if_pos ⟨q.1, by omega, q.2.2⟩]
          · rw [if_neg q, if_neg (fun y => by
              by_cases y2 : i = h ∧ j = w
              · obtain ⟨rfl, rfl⟩ := y2
                exact z y.2.2.2.2
              · exact q ⟨y.1, by omega, y.2.2⟩)])
        refine zOk.ite (fun x => ?_) (fun x => kk s ⟨skip (fun z => x z.1), hI.2⟩)
        refine zOk.eq (m_owedBy hI.1 hZ2 (by omega) (by omega)) ?_
        refine zOk.ite (fun y => ?_) (fun y => kk s ⟨skip (fun z => y (ow.trans z.2)), hI.2⟩)
        have y : aOws A n h w = 0 := ow.symm.trans y
        refine zOk.bind (m_setp7 hI.1 (by omega) (by omega) 0) (fun s2 ⟨M2, f2⟩ => kk s2 ⟨M2.cg (fun f i j => ?_), hI.2.tr f2⟩)
        simp only [aup]
        by_cases q0 : f = 10 ∧ i = h ∧ j = w
        · obtain ⟨rfl, rfl, rfl⟩ := q0
          rw [if_pos ⟨rfl, rfl, rfl⟩, if_pos ⟨rfl, by omega, by omega, hw, x, y⟩]
        · rw [if_neg q0]
          by_cases q : f = 10 ∧ (i < h ∨ (i = h ∧ j < w)) ∧ i < n ∧ j < m ∧ A 10 i j = 1 ∧ aOws A n i j = 0
          · rw [if_pos q, if_pos ⟨q.1, by omega, q.2.2⟩]
          · rw [if_neg q, if_neg (fun y => q ⟨y.1, by omega, y.2.2⟩)]
      · try dsimp only
        have hZ2 := st h m s (by omega) hI.1
        rw [e_Model_removePaid_1, (hI.1.sc (k := 7) (by decide)).trans hZ2.2.1, if_pos (nI_le0 (by omega)), nI_1]
        refine ih (h + 1) j s (by omega) (by omega) ⟨hI.1.cg (fun f i j => ?_), hI.2⟩
        by_cases q : f = 10 ∧ (i < h ∨ (i = h ∧ j < m)) ∧ i < n ∧ j < m ∧ A 10 i j = 1 ∧ aOws A n i j = 0
        · rw [if_pos q, if_pos ⟨q.1, by omega, q.2.2⟩]
        · rw [if_neg q, if_neg (fun y => q ⟨y.1, by omega, y.2.2⟩)]
  have hb : n * (m + 2) ≤ 12 * 22 := Nat.mul_le_mul hn12 (by omega)
  exact key n 0 zK σ (by omega) (zK_lt (by omega)) ⟨hM.cg (fun f i j => by simp), zfM.rf σ⟩
end MP
