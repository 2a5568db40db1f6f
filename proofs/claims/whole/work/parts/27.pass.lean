section MA
variable {σ : zSt} {A : zAb} {n m : Nat}
theorem aSd_s {B : zAb} {hd : Nat → Bool} {k : Nat} (h : hd k = false) : aSd B hd (k + 1) = aSd B hd k := by
  funext f i j
  simp only [aSd]
  have c : fb_ct hd (k + 1) = fb_ct hd k := by rw [fb_ct_succ, if_neg (by simp [h]), Nat.add_zero]
  rw [c]
  by_cases q : i = k
  · subst q; simp [h]
  · have e : (i < k + 1) = (i < k) := by simp; omega
    simp only [e]
theorem aSd_t {B : zAb} {hd : Nat → Bool} {k : Nat} (h : hd k = true) : aup (aup (aSd B hd k) 1 k 3 (B 1 k 3 - B 0 1 0)) 13 23 0 ((B 13 23 0 + B 0 1 0 * nI (fb_ct hd k)) + B 0 1 0) = aSd B hd (k + 1) := by
  have c : nI (fb_ct hd (k + 1)) = nI (fb_ct hd k) + 1 := by rw [fb_ct_succ, if_pos h, nI_1]
  have c2 : B 13 23 0 + B 0 1 0 * nI (fb_ct hd (k + 1)) = (B 13 23 0 + B 0 1 0 * nI (fb_ct hd k)) + B 0 1 0 := by
    rw [c, Int32.mul_add, Int32.mul_one, Int32.add_assoc]
  funext f i j
  simp only [aup, aSd]
  rw [c2]
  by_cases q : f = 13 ∧ i = 23 ∧ j = 0
  · obtain ⟨rfl, rfl, rfl⟩ := q; simp
  · rw [if_neg q, if_neg q, if_neg q]
    by_cases q2 : f = 1 ∧ i = k ∧ j = 3
    · obtain ⟨rfl, rfl, rfl⟩ := q2; simp [h]
    · rw [if_neg q2]
      by_cases q3 : f = 1 ∧ i < k ∧ j = 3 ∧ hd i = true
      · rw [if_pos q3, if_pos ⟨q3.1, by omega, q3.2.2⟩]
      · rw [if_neg q3, if_neg (fun z => q3 ⟨z.1, by omega, z.2.2⟩)]
theorem m_speak (hM : zMr σ A) (hZ : zSz A n m) (hd : A 0 5 0 ≠ 0) {s : Nat} (hs : s < n) (hT : ∀ h w, h < n → w < m → zTm (A 8 h w) ∧ zTm (A 11 h w)) {e : Nat} (he : aFirst A n m s = some e) : zOk (F_Model_speak (nI s) σ) (fun σ' => zMr σ' (aSpeak A n s (e / 2) (decide (e % 2 = 1))) ∧ zfM σ σ') := by
  have hn12 := hZ.2.2.1
  have hm20 := hZ.2.2.2
  have he2 : e / 2 < m := (aFirst_some he).1.1
  have he40 : e < 40 := by omega
  rw [F_Model_speak]
  refine zOk.bd2 (m_firstToSend hM hZ (by omega) (fun w hw => hT s w hs hw)) (fun r s1 ⟨hr, M1, f1⟩ => ?_)
  have hr : r = nI e := by rw [he] at hr; exact hr
  rw [hr, M1.sc (k := 0) (by decide)]
  refine zOk.eq (m_of3 M1 (by omega)) ?_
  refine zOk.bind (m_put3 M1 (by omega) _) (fun s2 ⟨M2, f2⟩ => ?_)
  refine zOk.eq (m_of7 M2 (by omega)) ?_
  rw [show aup A 1 s 3 (A 1 s 3 - A 0 0 0) 1 s 7 = A 1 s 7 by simp [aup]]
  refine zOk.bind (m_put7 M2 (by omega) _) (fun s3 ⟨M3, f3⟩ => ?_)
  refine zOk.eq (m_of8 M3 (by omega)) ?_
  rw [show aup (aup A 1 s 3 (A 1 s 3 - A 0 0 0)) 1 s 7 (A 1 s 7 + 1) 1 s 8 = A 1 s 8 by simp [aup]]
  refine zOk.bind (m_put8 M3 (by omega) _) (fun s4 ⟨M4, f4⟩ => ?_)
  have e10 : s4.1 4 81 10 = A 0 10 0 := (M4.sc (by decide)).trans (by simp [aup])
  have e0 : s4.1 4 81 0 = A 0 0 0 := (M4.sc (by decide)).trans (by simp [aup])
  have e23 : s4.1 4 80 23 = A 13 23 0 := M4.2.2.2.trans (by simp [aup])
  have M5 := M4.ps (k := 10) (by decide) (A 0 10 0 + 1)
  have x23 : (zst s4 4 81 10 (A 0 10 0 + 1)).1 4 80 23 = A 13 23 0 := by rw [zst_at, if_neg (by omega)]; exact e23
  have x0 : (zst s4 4 81 10 (A 0 10 0 + 1)).1 4 81 0 = A 0 0 0 := by rw [zst_at, if_neg (by omega)]; exact e0
  rw [e10, x23, x0]
  have M6 := M5.c23 (A 13 23 0 + A 0 0 0)
  have f6 := (((((f1.tr f2).tr f3).tr f4).tr (zfM.a81 s4 10 (A 0 10 0 + 1))).tr (zfM.a80 (zst s4 4 81 10 (A 0 10 0 + 1)) (i := 23) (by decide) (A 13 23 0 + A 0 0 0)))
  generalize zst (zst s4 4 81 10 (A 0 10 0 + 1)) 4 80 23 (A 13 23 0 + A 0 0 0) = s6 at M6 f6 ⊢
  have M6 : zMr s6 (aSp A s) := M6
  clear M1 M2 M3 M4 M5 f1 f2 f3 f4 e10 e0 e23 x23 x0 hr
  unfold aSpeak
  dsimp only
  generalize hB : aSp A s = B at M6
  have B0 : ∀ k, k ≠ 10 → B 0 k 0 = A 0 k 0 := fun k hk => by rw [← hB]; simp [aSp, aup, hk]
  have hZB : zSz B n m := by
    obtain ⟨z1, z2, z3, z4⟩ := hZ
    exact ⟨(B0 6 (by decide)).trans z1, (B0 7 (by decide)).trans z2, z3, z4⟩
  have hdB : B 0 5 0 ≠ 0 := by rw [B0 5 (by decide)]; exact hd
  have hds : aHd B s s = false := by unfold aHd aRng; simp
  generalize hw : e / 2 = w
  generalize hc : decide (e % 2 = 1) = c
  rw [hw] at he2
  generalize hhd : aHd B s = hdf
  rw [hhd] at hds
  generalize hpr : aPr B n s w c (B 9 s w + 1) hdf = pr
  -- after k houses
  have hpr0 : ∀ k f i j, (f < 3 ∨ f = 12 ∨ (3 ≤ f ∧ f ≤ 11 ∧ ¬ (i < k ∧ j = w ∧ hdf i = true))) → pr k f i j = B f i j := fun k f i j h => by rw [← hpr]; exact aPr_out h
  have cb0 : ∀ k i j, aCb (aSd B hdf k) (pr k) 0 i j = B 0 i j := fun k i j => by
    rw [aCb, if_neg (by omega)]; exact hpr0 k 0 i j (Or.inl (by decide))
  have cb1 : ∀ k i j, ¬ (i < k ∧ j = 3) → aCb (aSd B hdf k) (pr k) 1 i j = B 1 i j := fun k i j h => by
    rw [aCb, if_pos (Or.inl rfl), aSd, if_neg (fun z => h ⟨z.2.1, z.2.2.1⟩), if_neg (by omega)]
  refine z_loopC (fun j k st => L_Model_speak j 0 (nI s) (nI e) (zm hdf k) (zm (fun k => hdf k && aTk (pr k) c w k) k) (nI k) st) n 0 (fun k st => zMr st (aCb (aSd B hdf k) (pr k)) ∧ zfM σ st) _ (fun k st hk hI j kk => ?_) (fun st hI j hj => ?_) zK s6 (zK_lt (by omega)) ⟨M6.cg (fun f i j => ?_), f6⟩
  · try dsimp only
    have Mk := hI.1
    have hZk : zSz (aCb (aSd B hdf k) (pr k)) n m := ⟨(cb0 _ _ _).trans hZB.1, (cb0 _ _ _).trans hZB.2.1, hZB.2.2⟩
    rw [e_Model_speak_0, (Mk.sc (k := 6) (by decide)).trans hZk.1, if_neg (nI_ge hk (by omega)), Mk.sc (k := 1) (by decide), cb0]
    have hr : aRng (aCb (aSd B hdf k) (pr k)) s k = aRng B s k := by
      unfold aRng aDist
      rw [cb1 k s 0 (by omega), cb1 k s 1 (by omega), cb1 k s 2 (by omega), cb1 k k 0 (by omega), cb1 k k 1 (by omega)]
    have hq : aQuiet (aCb (aSd B hdf k) (pr k)) k (aT (aCb (aSd B hdf k) (pr k))) = aQuiet B k (aT B) := by
      unfold aQuiet aT
      rw [cb1 k k 5 (by omega), cb1 k k 6 (by omega), cb0, cb0]
    have hb := cb1 k k 3 (by omega)
    have next0 : hdf k = false → zOk (L_Model_speak j 0 (nI s) (nI e) (zm hdf k) (zm (fun k => hdf k && aTk (pr k) c w k) k) (nI k + 1) st) _ := fun h0 => by
      have k2 := kk st ⟨by rw [aSd_s h0]; exact Mk.cg (fun f i j => by
        rw [← hpr, aPr, if_neg (by simp [h0])]), hI.2⟩
      rw [zm_s0 h0, zm_s0 (P := fun k => hdf k && aTk (pr k) c w k) (by simp [h0])] at k2
      rw [nI_1]; exact k2
    have hdk : hdf k = (aRng B s k && !aQuiet B k (aT B) && !decide (B 1 k 3 < B 0 1 0)) := by rw [← hhd]; rfl
    refine zOk.eq (m_isInRange Mk (by omega) (by omega)) ?_
    rw [hr]
    refine zOk.ite (fun x => next0 (by rw [hdk, (bI_0 _).mp x]; rfl)) (fun x => ?_)
    have x1 : aRng B s k = true := by
      cases y : aRng B s k with
      | true => rfl
      | false => exact absurd (bI_f y) x
    refine zOk.eq (m_quiet Mk (by rw [cb0]; exact hdB) (by omega)) ?_
    rw [hq]
    refine zOk.ite (fun y => ?_) (fun y => next0 (by
      rw [hdk]
      cases z : aQuiet B k (aT B) with
      | true => simp
      | false => exact absurd (bI_f z) y))
    have y1 : aQuiet B k (aT B) = false := (bI_0 _).mp y
    refine zOk.eq (m_of3 Mk (by omega)) ?_
    rw [hb]
    refine zOk.ite (fun z => next0 (by rw [hdk]; simp [z])) (fun z => ?_)
    have h1 : hdf k = true := by rw [hdk, x1, y1]; simp [z]
    refine zOk.bd2 (m_hear Mk hZk ⟨hw, hc⟩ (by omega) (by omega) (by omega)) (fun r s7 ⟨hr7, f7, M7⟩ => ?_)
    have hr7 : r = bI (aTk (aCb (aSd B hdf k) (pr k)) c w k) := hr7
    have tk : aTk (aCb (aSd B hdf k) (pr k)) c w k = aTk (pr k) c w k := by unfold aTk; simp [aCb]
    have M7 : zMr s7 (if aTk (aCb (aSd B hdf k) (pr k)) c w k = true then aTake (aup (aup (aCb (aSd B hdf k) (pr k)) 1 k 3 (aCb (aSd B hdf k) (pr k) 1 k 3 - aCb (aSd B hdf k) (pr k) 0 1 0)) 13 23 0 (aCb (aSd B hdf k) (pr k) 13 23 0 + aCb (aSd B hdf k) (pr k) 0 1 0)) n s w c (aCb (aSd B hdf k) (pr k) 9 s w + 1) k else aup (aup (aCb (aSd B hdf k) (pr k)) 1 k 3 (aCb (aSd B hdf k) (pr k) 1 k 3 - aCb (aSd B hdf k) (pr k) 0 1 0)) 13 23 0 (aCb (aSd B hdf k) (pr k) 13 23 0 + aCb (aSd B hdf k) (pr k) 0 1 0)) := M7
    have c13 : aCb (aSd B hdf k) (pr k) 13 23 0 = B 13 23 0 + B 0 1 0 * nI (fb_ct hdf k) := by simp [aCb, aSd]
    have c9 : aCb (aSd B hdf k) (pr k) 9 s w = B 9 s w := by
      rw [aCb, if_neg (by omega)]
      exact hpr0 k 9 s w (Or.inr (Or.inr ⟨by decide, by decide, fun ⟨_, _, z⟩ => by rw [hds] at z; cases z⟩))
    have two : aup (aup (aCb (aSd B hdf k) (pr k)) 1 k 3 (B 1 k 3 - B 0 1 0)) 13 23 0 ((B 13 23 0 + B 0 1 0 * nI (fb_ct hdf k)) + B 0 1 0) = aCb (aSd B hdf (k + 1)) (pr k) := by
      rw [← aSd_t h1]
      funext f i j
      simp only [aup, aCb]
      repeat' split
      all_goals first | rfl | omega
    rw [hb, cb0, c13, c9, tk, two, aTake_cb] at M7
    have hpk : pr (k + 1) = if aTk (pr k) c w k = true then aTake (pr k) n s w c (B 9 s w + 1) k else pr k := by
      rw [← hpr, aPr, h1, Bool.true_and]
    have Mn : zMr s7 (aCb (aSd B hdf (k + 1)) (pr (k + 1))) := by
      rw [hpk]
      split
      · rename_i y; rw [if_pos y] at M7; exact M7
      · rename_i y; rw [if_neg y] at M7; exact M7
    have k2 := kk s7 ⟨Mn, hI.2.tr f7⟩
    rw [zm_s1 h1, ← zm_add (by omega)] at k2
    rw [hr7, tk]
    cases t : aTk (pr k) c w k with
    | false =>
      rw [zm_s0 (P := fun k => hdf k && aTk (pr k) c w k) (by simp [t])] at k2
      refine zOk.pos rfl ?_
      rw [nI_1, Int32.add_zero]; exact k2
    | true =>
      rw [zm_s1 (P := fun k => hdf k && aTk (pr k) c w k) (by simp [t, h1]), ← zm_add (by omega)] at k2
      refine zOk.neg (by decide) ?_
      rw [nI_1]; exact k2
  · try dsimp only
    have Mk := hI.1
    rw [e_Model_speak_0, (Mk.sc (k := 6) (by decide)).trans ((cb0 _ _ _).trans hZB.1), if_pos (nI_le0 (by omega))]
    refine zOk.bind (m_note Mk ⟨hw, hc⟩ he40 _ _) (fun s7 ⟨M7, f7⟩ => ?_)
    have e8 : s7.1 4 81 8 = A 0 8 0 := (M7.sc (by decide)).trans (by
      show aNote _ s c w _ _ 0 8 0 = _
      rw [aNote, if_neg (by omega), if_neg (by omega), cb0]; exact B0 8 (by decide))
    rw [e8]
    refine zOk.eq (m_isCorrection (by omega)) ?_
    rw [m_half (by omega), hw]
    try dsimp only
    refine zOk.ite (fun x => ?_) (fun x => ?_)
    · have c0 : c = false := by rw [← hc]; exact (bI_0 _).mp x
      rw [if_neg (by rw [c0]; decide)]
      exact zOk.bind (m_setp4 M7 (by omega) (by omega) 0) (fun s8 ⟨M8, f8⟩ => ⟨_, rfl, M8, (hI.2.tr f7).tr f8⟩)
    · have c1 : c = true := by
        rw [← hc]
        cases y : decide (e % 2 = 1) with
        | true => rfl
        | false => exact absurd (bI_f y) x
      rw [if_pos c1]
      exact zOk.bind (m_setp8 M7 (by omega) (by omega) _) (fun s8 ⟨M8, f8⟩ => ⟨_, rfl, M8, (hI.2.tr f7).tr f8⟩)
  · rw [← hpr]
    simp only [aCb, aSd, aPr]
    have c0 : fb_ct hdf 0 = 0 := rfl
    rw [c0, nI_0, Int32.mul_zero, Int32.add_zero]
    by_cases q : f = 13 ∧ i = 23 ∧ j = 0
    · obtain ⟨rfl, rfl, rfl⟩ := q; simp
    · simp [q]
theorem aBegin_at {A : zAb} {n f i j : Nat} (h : f ≠ 1 ∨ (j ≠ 3 ∧ j ≠ 7)) : aBegin A n f i j = A f i j := by
  unfold aBegin
  split
  · rw [aDay, if_neg (by omega), if_neg (by omega)]
  · rfl
theorem m_passMinute (hM : zMr σ A) (hZ : zSz A n m) (hd : A 0 5 0 ≠ 0) (hT : ∀ h w, h < n → w < m → zTm (A 8 h w) ∧ zTm (A 11 h w)) {x : Nat} (hx : x < 1000003) (hX : A 0 9 0 = nI x) (hs : ∀ i, i < n → A 1 i 4 = nI (aSh A i) ∧ 0 < aSh A i ∧ aSh A i < 10) :
    zOk (F_Model_passMinute σ) (fun σ' => zMr σ' (aMin A n m) ∧ zfM σ σ') := by
  have hn12 := hZ.2.2.1
  rw [F_Model_passMinute]
  refine zOk.bind (m_begin hM hZ hd) (fun s1 ⟨M1, f1⟩ => ?_)
  unfold aMin
  have b0 : ∀ k, aBegin A n 0 k 0 = A 0 k 0 := fun k => aBegin_at (Or.inl (by decide))
  have bp : ∀ f i j, f ≠ 1 → aBegin A n f i j = A f i j := fun f i j h => aBegin_at (Or.inl h)
  have sh : ∀ i, aSh (aBegin A n) i = aSh A i := fun i => by unfold aSh; rw [aBegin_at (Or.inr ⟨by decide, by decide⟩)]
  have hZ1 : zSz (aBegin A n) n m := ⟨(b0 6).trans hZ.1, (b0 7).trans hZ.2.1, hZ.2.2⟩
  have hd1 : aBegin A n 0 5 0 ≠ 0 := by rw [b0]; exact hd
  have hT1 : ∀ h w, h < n → w < m → zTm (aBegin A n 8 h w) ∧ zTm (aBegin A n 11 h w) := fun h w hh hw => by rw [bp _ _ _ (by decide), bp _ _ _ (by decide)]; exact hT h w hh hw
  have hs1 : ∀ i, i < n → aBegin A n 1 i 4 = nI (aSh (aBegin A n) i) ∧ 0 < aSh (aBegin A n) i ∧ aSh (aBegin A n) i < 10 := fun i hi => by
    rw [sh, aBegin_at (Or.inr ⟨by decide, by decide⟩)]; exact hs i hi
  have e8 : aBegin A n 0 8 0 = A 0 8 0 := b0 8
  generalize aBegin A n = A1 at *
  refine zOk.bd2 (m_drawSpeaker M1 hZ1 hd1 hT1 hx ((b0 9).trans hX) hs1) (fun r s2 ⟨hr, M2, f2⟩ => ?_)
  have hr : r = aSpe A1 n m := hr
  have M2 : zMr s2 (aDrawn A1 n m) := M2
  have fin : ∀ A3 s3, zMr s3 A3 → zfM σ s3 → zSz A3 n m → A3 0 8 0 = A 0 8 0 → zOk ((F_Model_removePaid s3).bind fun σ7 => some (zst σ7 4 81 8 ((σ7.1 4 81 8) + (1 : Int32)))) (fun σ' => zMr σ' (aup (aPaid A3 n m) 0 8 0 (A 0 8 0 + 1)) ∧ zfM σ σ') := by
    intro A3 s3 M3 f3 hZ3 h8
    refine zOk.bind (m_removePaid M3 hZ3) (fun s4 ⟨M4, f4⟩ => ?_)
    have x8 : s4.1 4 81 8 = A 0 8 0 := (M4.sc (by decide)).trans (by simp [aPaid, h8])
    rw [x8]
    exact ⟨_, rfl, M4.ps (by decide) _, (f3.tr f4).tr (zfM.a81 _ _ _)⟩
  rw [hr]
  unfold aSpe
  unfold aDrawn at M2 ⊢
  by_cases c : zm (aWish A1 n m) n = 0
  · simp only [if_pos c] at M2 ⊢
    refine zOk.pos trivial (fin A1 s2 M2 (f1.tr f2) hZ1 e8)
  · simp only [if_neg c] at M2 ⊢
    obtain ⟨-, -, g3, g4⟩ := aSpk_in hn12 hs1 c
    have ne : ¬ nI (aSpk A1 n m) = -1 := by
      intro z
      have z2 := congrArg Int32.toInt z
      rw [nI_toInt (by omega)] at z2
      have : (-1 : Int32).toInt = -1 := by decide
      omega
    refine zOk.neg ne ?_
    have fi : (aFirst A1 n m (aSpk A1 n m)).isSome = true := by
      unfold aWish at g4
      simp only [Bool.and_eq_true] at g4
      exact g4.2
    generalize hsk : aSpk A1 n m = s at *
    cases ef : aFirst A1 n m s with
    | none => rw [ef] at fi; cases fi
    | some e =>
      -- the draw changes nothing of the queue
      have dz : ∀ f i j, f ≠ 0 → aup A1 0 9 0 (nI (aX A1)) f i j = A1 f i j := fun f i j h => by rw [aup, if_neg (fun z => h z.1)]
      have hZ2 : zSz (aup A1 0 9 0 (nI (aX A1))) n m := by simpa [zSz, aup] using hZ1
      have ow : ∀ h w, aOws (aup A1 0 9 0 (nI (aX A1))) n h w = aOws A1 n h w := fun h w => aOws_cg (fun i _ => dz _ _ _ (by decide)) (fun i _ => dz _ _ _ (by decide))
      have nr : ∀ h, aNear (aup A1 0 9 0 (nI (aX A1))) n h = aNear A1 n h := fun h => zm_congr (fun i _ => by unfold aRng aDist; simp [aup])
      have ef2 : aFirst (aup A1 0 9 0 (nI (aX A1))) n m s = some e := by
        rw [← ef]
        unfold aFirst aFc aFn aSend
        simp only [ow, nr, dz _ _ _ (show (10 : Nat) ≠ 0 by decide), dz _ _ _ (show (11 : Nat) ≠ 0 by decide), dz _ _ _ (show (7 : Nat) ≠ 0 by decide), dz _ _ _ (show (8 : Nat) ≠ 0 by decide)]
      refine zOk.bind (m_speak M2 hZ2 (by simpa [aup] using hd1) g3 (fun h w hh hw => by rw [dz _ _ _ (by decide), dz _ _ _ (by decide)]; exact hT1 h w hh hw) ef2) (fun s3 ⟨M3, f3⟩ => ?_)
      dsimp only
      have k0 : ∀ k, k = 6 ∨ k = 7 ∨ k = 8 → aSpeak (aup A1 0 9 0 (nI (aX A1))) n s (e / 2) (decide (e % 2 = 1)) 0 k 0 = A1 0 k 0 := by
        intro k hk
        unfold aSpeak
        try dsimp only
        have q : ∀ hm tm, aNote (aCb (aSd (aSp (aup A1 0 9 0 (nI (aX A1))) s) (aHd (aSp (aup A1 0 9 0 (nI (aX A1))) s) s) n) (aPr (aSp (aup A1 0 9 0 (nI (aX A1))) s) n s (e / 2) (decide (e % 2 = 1)) (aSp (aup A1 0 9 0 (nI (aX A1))) s 9 s (e / 2) + 1) (aHd (aSp (aup A1 0 9 0 (nI (aX A1))) s) s) n)) s (decide (e % 2 = 1)) (e / 2) hm tm 0 k 0 = A1 0 k 0 := by
          intro hm tm
          rw [aNote, if_neg (by omega), if_neg (by omega), aCb, if_neg (by omega), aPr_out (Or.inl (by decide))]
          rcases hk with rfl | rfl | rfl <;> simp [aSp, aup]
        split
        · rw [aup, if_neg (by omega)]; exact q _ _
        · rw [aup, if_neg (by omega)]; exact q _ _
      exact fin _ s3 M3 ((f1.tr f2).tr f3) ⟨(k0 6 (by omega)).trans hZ1.1, (k0 7 (by omega)).trans hZ1.2.1, hZ1.2.2⟩ ((k0 8 (by omega)).trans e8)
end MA
