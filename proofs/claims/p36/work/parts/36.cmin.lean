/-! a whole minute of the class -/
theorem aPr_cb {S Q : zAb} {n s w : Nat} {c : Bool} {hops : Int32} {hd : Nat → Bool} : ∀ {k : Nat}, aPr (aCb S Q) n s w c hops hd k = aCb S (aPr Q n s w c hops hd k)
  | 0 => rfl
  | k + 1 => by
    have ih := aPr_cb (S := S) (Q := Q) (n := n) (s := s) (w := w) (c := c) (hops := hops) (hd := hd) (k := k)
    have e : ∀ X : zAb, aTk (aCb S X) c w k = aTk X c w k := fun X => by unfold aTk; simp [aCb]
    rw [aPr, aPr, ih, e, aTake_cb]
    split <;> rfl
theorem aSd_cb {B : zAb} {hd : Nat → Bool} {k : Nat} : aCb (aSd B hd k) B = aSd B hd k := by
  funext f i j
  unfold aCb aSd
  by_cases z : f = 1 ∨ (f = 13 ∧ i = 23)
  · rw [if_pos z]
  · rw [if_neg z, if_neg (fun q => z (Or.inl q.1)), if_neg (fun q => z (Or.inr ⟨q.1, q.2.1⟩))]
theorem aPr_sd {B : zAb} {n s w : Nat} {c : Bool} {hops : Int32} {hd : Nat → Bool} {k l : Nat} : aPr (aSd B hd l) n s w c hops hd k = aCb (aSd B hd l) (aPr B n s w c hops hd k) := by
  have e : aPr (aCb (aSd B hd l) B) n s w c hops hd k = aCb (aSd B hd l) (aPr B n s w c hops hd k) := aPr_cb
  rw [aSd_cb] at e
  exact e
theorem aTk_sd {B : zAb} {n s w : Nat} {c : Bool} {hops : Int32} {hd : Nat → Bool} {k l : Nat} : aTk (aPr (aSd B hd l) n s w c hops hd k) c w k = aTk (aPr B n s w c hops hd k) c w k := by
  rw [aPr_sd]; unfold aTk; simp [aCb]
theorem aSd_at {B : zAb} {hd : Nat → Bool} {k f i j : Nat} (h : f ≠ 1 ∧ f ≠ 13) : aSd B hd k f i j = B f i j := by
  rw [aSd, if_neg (by omega), if_neg (by omega)]
theorem aSp_at {A : zAb} {s f i j : Nat} (h : f ≠ 1 ∧ f ≠ 13 ∧ ¬ (f = 0 ∧ i = 10)) : aSp A s f i j = A f i j := by
  unfold aSp
  rw [aup, if_neg (by omega), aup, if_neg (by omega), aup, if_neg (by omega), aup, if_neg (by omega), aup, if_neg (by omega)]
/-- the state behind the loop of the speaker's hearers -/
def aEn (A : zAb) (n s w : Nat) (c : Bool) : zAb := aPr (aSd (aSp A s) (aHd A s) n) n s w c (A 9 s w + 1) (aHd A s) n
def aTm2 (A : zAb) (n s w : Nat) (c : Bool) : Int32 := zm (fun k => aHd A s k && aTk (aPr (aSd (aSp A s) (aHd A s) n) n s w c (A 9 s w + 1) (aHd A s) k) c w k) n
theorem aSpeak_eq {A : zAb} {n s w : Nat} {c : Bool} : aSpeak A n s w c = if c = true then aup (aNote (aEn A n s w c) s c w (zm (aHd A s) n) (aTm2 A n s w c)) 11 s w (A 0 8 0 + 1) else aup (aNote (aEn A n s w c) s c w (zm (aHd A s) n) (aTm2 A n s w c)) 7 s w 0 := by
  have e1 : aHd (aSp A s) s = aHd A s := funext fun h => aHd_sp
  have e2 : aSp A s 9 s w = A 9 s w := aSp_at ⟨by decide, by decide, fun z => absurd z.1 (by decide)⟩
  have e3 : aEn A n s w c = aCb (aSd (aSp A s) (aHd A s) n) (aPr (aSp A s) n s w c (A 9 s w + 1) (aHd A s) n) := aPr_sd
  have e4 : aTm2 A n s w c = zm (fun k => aHd A s k && aTk (aPr (aSp A s) n s w c (A 9 s w + 1) (aHd A s) k) c w k) n := zm_congr (fun k _ => by rw [aTk_sd])
  rw [e3, e4]
  unfold aSpeak
  dsimp only
  rw [e1, e2]
theorem aEn_at {A : zAb} {n s w : Nat} {c : Bool} {f i j : Nat} (h : (f < 3 ∨ f = 12 ∨ (3 ≤ f ∧ f ≤ 11 ∧ ¬ (i < n ∧ j = w ∧ aHd A s i = true))) ∧ f ≠ 1 ∧ ¬ (f = 0 ∧ i = 10)) : aEn A n s w c f i j = A f i j := by
  unfold aEn
  rw [aPr_out h.1, aSd_at (by omega), aSp_at (by omega)]
theorem aEn_10 {A : zAb} {n s w : Nat} {c : Bool} : aEn A n s w c 0 10 0 = A 0 10 0 + 1 := by
  unfold aEn
  rw [aPr_out (Or.inl (by decide)), aSd_at (by decide)]
  simp [aSp, aup]
theorem aHd_s {A : zAb} {s : Nat} : aHd A s s = false := by unfold aHd aRng; simp
theorem aSpk_0 {A : zAb} {n s w : Nat} {c : Bool} {k : Nat} (hk : k < 10) : aSpeak A n s w c 0 k 0 = A 0 k 0 := by
  rw [aSpeak_eq]
  split
  · rw [aup, if_neg (by omega), aNote, if_neg (by omega), if_neg (by omega), aEn_at (by omega)]
  · rw [aup, if_neg (by omega), aNote, if_neg (by omega), if_neg (by omega), aEn_at (by omega)]
theorem aSpk_10 {A : zAb} {n s w : Nat} {c : Bool} : aSpeak A n s w c 0 10 0 = A 0 10 0 + 1 := by
  rw [aSpeak_eq]
  split
  · rw [aup, if_neg (by omega), aNote, if_neg (by omega), if_neg (by omega), aEn_10]
  · rw [aup, if_neg (by omega), aNote, if_neg (by omega), if_neg (by omega), aEn_10]
theorem aSpk_11 {A : zAb} {n s w : Nat} {c : Bool} : aSpeak A n s w c 0 11 0 = if A 0 11 0 + 1 < 30 then A 0 11 0 + 1 else 30 := by
  rw [aSpeak_eq]
  have e : aEn A n s w c 0 11 0 = A 0 11 0 := aEn_at (by omega)
  split
  · rw [aup, if_neg (by omega), aNote, if_neg (by omega), if_pos ⟨rfl, rfl, rfl⟩, e]
  · rw [aup, if_neg (by omega), aNote, if_neg (by omega), if_pos ⟨rfl, rfl, rfl⟩, e]
def aNw (A : zAb) (n s w : Nat) (c : Bool) (j : Nat) : Int32 := if j = 0 then A 0 8 0 else if j = 1 then nI s else if j = 2 then bI c else if j = 3 then nI w else if j = 4 then zm (aHd A s) n else aTm2 A n s w c
theorem aSpk_12 {A : zAb} {n s w : Nat} {c : Bool} {i j : Nat} (hi : i < 30) (hj : j < 6) : aSpeak A n s w c 12 i j = if i = 0 then aNw A n s w c j else A 12 (i - 1) j := by
  rw [aSpeak_eq]
  have e : ∀ i, aEn A n s w c 12 i j = A 12 i j := fun i => aEn_at (by omega)
  have e8 : aEn A n s w c 0 8 0 = A 0 8 0 := aEn_at (by omega)
  have k : aNote (aEn A n s w c) s c w (zm (aHd A s) n) (aTm2 A n s w c) 12 i j = if i = 0 then aNw A n s w c j else A 12 (i - 1) j := by
    rw [aNote, if_pos ⟨rfl, hi, hj⟩, e]
    unfold aNv aNw
    rw [e8]
  split
  · rw [aup, if_neg (by omega)]; exact k
  · rw [aup, if_neg (by omega)]; exact k
section CY
variable {σ : zSt} {A : zAb} {n m T v : Nat} {c : Int32}
theorem aDue_get (hI : aInv A n m T) (hd : aDue A n m) {s w h : Nat} {hops : Int32} (hs : s < n) (hh : h < n) (hw : w < m) (hne : h ≠ s) (k3 : A 3 h w = 0) (k4 : A 4 h w = 0) (k4s : A 4 s w = 0) : aDue (aGet A s w h hops) n m := by
  have hn := hI.1.2.2.1
  intro x y hx hy q
  have e4 : ∀ i j, aGet A s w h hops 4 i j = A 4 i j := fun i j => by unfold aGet; split <;> simp [aup]
  have e10 : aGet A s w h hops 10 x y = A 10 x y := by unfold aGet; split <;> simp [aup]
  have e5 : ∀ i j, ¬ (i = h ∧ j = w) → aGet A s w h hops 5 i j = A 5 i j := fun i j z => by unfold aGet; split <;> simp [aup, z]
  have e5h : aGet A s w h hops 5 h w = nI s := by unfold aGet; split <;> simp [aup]
  rw [e10] at q
  have b1 := (hI.2.2.2.2 x y hx hy).2.2.2.2.2.2.2.2.2.2.2 q
  have k5 := ((hI.2.2.2.2 h w hh hw).2.2.2.2.2.2.2.2.2.1 k3).1
  have : aOws (aGet A s w h hops) n x y = aOws A n x y := by
    by_cases yw : y = w
    · subst yw
      have xh : x ≠ h := fun z => by rw [z, k4] at b1; exact absurd b1 (by decide)
      have xs : x ≠ s := fun z => by rw [z, k4s] at b1; exact absurd b1 (by decide)
      refine zm_congr (fun i hi => ?_)
      unfold aOw
      rw [e4, e4, e5 x y (fun z => xh z.1)]
      by_cases u : i = h
      · subst u
        rw [e5h, k5]
        have e1 : nI s = nI x ↔ s = x := nI_eq (by omega) (by omega)
        have e2 : ¬ (-1 : Int32) = nI x := fun z => oI_ne (e := x) (by omega) z.symm
        simp [e1, e2, Ne.symm xs]
      · rw [e5 i y (fun z => u z.1)]
    · exact aOws_cg (fun i _ => e4 i y) (fun i _ => e5 i y (fun z => yw z.2))
  rw [this]
  exact hd x y hx hy q
theorem aDue_prF (hI : aInv A n m T) (hdu : aDue A n m) {s w g : Nat} (hs : s < n) (hw : w < m) (hg : g ≤ 12) {hd : Nat → Bool} (h0 : hd s = false) (k4s : A 4 s w = 0) : ∀ k, k ≤ n → aDue (aPr A n s w false (nI g) hd k) n m
  | 0, _ => hdu
  | k + 1, hk => by
    have ih := aDue_prF hI hdu hs hw hg h0 k4s k (by omega)
    have iv := aInv_pr hI hs hw hg (fun z => by cases z) hd k (by omega) (k := false)
    rw [aPr]
    by_cases q : (hd k && aTk (aPr A n s w false (nI g) hd k) false w k) = true
    · rw [if_pos q]
      rw [Bool.and_eq_true] at q
      obtain ⟨g4, g3⟩ := aTk_e iv (by omega) hw q.2
      have hne : k ≠ s := fun z => by rw [z, h0] at q; exact absurd q.1 (by decide)
      have e2 : aTake (aPr A n s w false (nI g) hd k) n s w false (nI g) k = aup (aGet (aPr A n s w false (nI g) hd k) s w k (nI g)) 13 21 0 (aPr A n s w false (nI g) hd k 13 21 0 + 1) := if_neg (by decide)
      rw [e2]
      have k4' : aPr A n s w false (nI g) hd k 4 s w = 0 := by
        rw [aPr_out (Or.inr (Or.inr ⟨by decide, by decide, fun z => by rw [h0] at z; exact absurd z.2.2 (by decide)⟩))]; exact k4s
      exact aDue_cg (aDue_get iv ih hs (by omega) hw hne (g3 rfl) g4 k4') (fun f h w q => by rw [aup, if_neg (by omega)])
    · rw [if_neg q]; exact ih
def zC (σ : zSt) (v : Nat) (A : zAb) (n m : Nat) (c : Int32) (T : Nat) : Prop := zVr σ v A n m c ∧ v7 σ v A ∧ aInv A n m T ∧ aDue A n m ∧ aLg A T
theorem zVr.cgc {B : zAb} (hR : zVr σ v A n m c) (e : ∀ f i j, ¬ (f = 0 ∧ 10 ≤ i) → f ≠ 12 → A f i j = B f i j) : zVr σ v B n m c := by
  obtain ⟨r1, r2, r3, r4, r5, r6⟩ := hR
  exact ⟨r1.cg (fun _ _ _ => rfl) (fun k hk => (e _ _ _ (by omega) (by decide)).symm) (e _ _ _ (by omega) (by decide)).symm, r2.cg (fun _ _ _ _ => rfl) (fun i j => (e _ _ _ (by omega) (by decide)).symm), r3.cg (fun _ _ _ _ => rfl) (fun f i j q => (e _ _ _ (by omega) (by omega)).symm), r4.cg (fun _ _ _ => rfl) (fun f i j q => (e _ _ _ (by omega) (by omega)).symm), r5.cg (fun _ _ _ => rfl) (fun f i j q _ => (e _ _ _ (by omega) (by omega)).symm), r6.cg (fun _ _ _ => rfl) (fun i j => (e _ _ _ (by omega) (by decide)).symm)⟩
/-- what follows when the state behind the speaker stands -/
theorem c_tick {A3 : zAb} {s3 : zSt} (R3 : zVr s3 v (aPaid A3 n m) n m c) (V3 : v7 s3 v A3) (I3 : aInv A3 n m T) (L3 : aLg A3 (T + 1)) (hT : T + 1 < 2 ^ 28) : zC (zst s3 v 0 1 (s3.1 v 0 1 + 1)) v (aup (aPaid A3 n m) 0 8 0 (nI (T + 1))) n m c (T + 1) := by
  have e : s3.1 v 0 1 + 1 = nI (T + 1) := by
    rw [R3.1.2.1, show aPaid A3 n m 0 8 0 = A3 0 8 0 by simp [aPaid], I3.2.1.2.1, nI_1]
  rw [e]
  refine ⟨R_time R3 _, V3.cg (fun o i q => by rw [zst_at, if_neg (by omega)]) (by simp [aup, aPaid]) (fun i j => by simp [aup, aPaid]), aInv_tick (aInv_paid I3) hT, aDue_cg aPaid_due (fun f h w q => by rw [aup, if_neg (by omega)]), ?_⟩
  obtain ⟨s, h1, h2, h3⟩ := L3
  exact ⟨s, h1, by simpa [aup, aPaid] using h2, by simpa [aup, aPaid] using h3⟩
theorem c_speak (hC : zC σ v A n m c T) (hT : T + 1 < 2 ^ 28) {s e : Nat} (hs : s < n) (hb : ¬ A 1 s 3 < A 0 0 0) (he : aFirst A n m s = some e) :
    zOk (bd2 (F_Village_spendOnAir v (nI s) σ) fun r13 σ14 => if zm (fun w => decide (A 10 s w = 1) && aSend A n s w) m = 0 then ((F_Entries_first v 43 (nI s) (zm (fun w => decide (A 7 s w = 1)) m) σ14).bind fun r16 => (F_Village_sendNews v (nI s) r16 r13 σ14).bind fun σ18 => some (zst σ18 v 0 1 ((σ18.1 v 0 1) + (1 : Int32)))) else ((F_Entries_first v 48 (nI s) (zm (fun w => decide (A 10 s w = 1) && aSend A n s w) m) σ14).bind fun r20 => (F_Village_sendCorrection v (nI s) r20 r13 σ14).bind fun σ22 => some (zst σ22 v 0 1 ((σ22.1 v 0 1) + (1 : Int32)))))
      (fun σ' => zC σ' v (aup (aPaid (aSpeak A n s (e / 2) (decide (e % 2 = 1))) n m) 0 8 0 (nI (T + 1))) n m c (T + 1) ∧ zfV v σ σ') := by
  obtain ⟨hR, h7, hI, hD, ⟨t0, ht0, ht1, ht2⟩⟩ := hC
  have hn := hI.1.2.2.1
  have hm := hI.1.2.2.2
  have eT := hI.2.1.2.1
  have hdl : ∀ i, i < n → aHd A s i = true → ¬ A 1 i 3 < A 0 1 0 := fun i _ q => by
    unfold aHd at q
    simp only [Bool.and_eq_true, Bool.not_eq_true', decide_eq_false_iff_not] at q
    exact q.2
  refine zOk.bd2 (c_spendOnAir hR hI hs) (fun r s1 ⟨hr, R1, J1⟩ => ?_)
  have hr : r = zm (aHd A s) n := hr
  have R1 : zVr s1 v (aSd (aSp A s) (aHd A s) n) n m c := R1
  have J1 : zJk v σ s1 := J1
  rw [hr]
  have I1 := aInv_spend hI hs hb (aHd A s) aHd_s hdl
  have oP : ∀ f i j, 2 ≤ f → f ≤ 11 → aSd (aSp A s) (aHd A s) n f i j = A f i j := fun f i j a b => by rw [aSd_at (by omega), aSp_at (by omega)]
  -- the log, the counts
  have lg : ∀ w k, aLg (aSpeak A n s w k) (T + 1) := fun w k => by
    refine ⟨t0 + 1, by omega, by rw [aSpk_10, ht1, nI_1], ?_⟩
    rw [aSpk_11, ht2, nI_1]
    by_cases z : min 30 t0 + 1 < 30
    · rw [if_pos (show nI (min 30 t0 + 1) < 30 from (nI_ltI (b := 30) (by omega) (by decide)).mpr z)]
      congr 1; omega
    · rw [if_neg (show ¬ nI (min 30 t0 + 1) < 30 from fun y => z ((nI_ltI (b := 30) (by omega) (by decide)).mp y)), show min 30 (t0 + 1) = 30 by omega]
      rfl
  have jr : ∀ w k s2, zVr s2 v (aEn A n s w k) n m c → zJk v σ s2 → zOk (F_Journal_add v (A 0 8 0) (nI s) (bI k) (nI w) (zm (aHd A s) n) (aTm2 A n s w k) s2) (fun σ' => v7 σ' v (aSpeak A n s w k) ∧ zfV v s2 σ' ∧ ∀ o i, o ≠ 59 → o ≠ 61 → σ'.1 v o i = s2.1 v o i) := fun w k s2 _ J2 => by
    have h72 : v7 s2 v A := h7.cg J2.2 rfl (fun _ _ => rfl)
    exact c_journal (x := aNw A n s w k) h72 ht1 (by omega) (by rw [aSpk_10, ht1, nI_1]) (fun i j hi hj => aSpk_12 hi hj)
  cases e1 : aFc A n m s with
  | none =>
    have c0 : zm (fun w => decide (A 10 s w = 1) && aSend A n s w) m = 0 := (zm_zero (by omega)).mpr (zbest_none e1)
    obtain ⟨w, ew, rfl⟩ : ∃ w, aFn A m s = some w ∧ e = 2 * w := by
      unfold aFirst at he
      rw [e1] at he
      cases e2 : aFn A m s with
      | none => rw [e2] at he; cases he
      | some w => rw [e2] at he; cases he; exact ⟨w, rfl, rfl⟩
    obtain ⟨hw, g2, -⟩ := zbest_some ew
    have k7 : A 7 s w = 1 := by simpa using g2
    rw [show 2 * w / 2 = w by omega, show decide (2 * w % 2 = 1) = false from decide_eq_false (by omega)]
    refine zOk.pos c0 ?_
    have ef : F_Entries_first v 43 (nI s) (zm (fun w => decide (A 7 s w = 1)) m) s1 = some (nI w) := by
      rw [c_first43 R1 I1 hs (fun w _ q => by rw [oP 7 s w (by decide) (by decide)]; simpa using q)]
      congr 1
      have : zbest (fun w => decide (A 7 s w = 1)) (fun w => aSd (aSp A s) (aHd A s) n 8 s w) m = aFn A m s := zbest_cong (fun _ _ => rfl) (fun i _ _ => oP 8 s i (by decide) (by decide))
      rw [this, ew]; rfl
    refine zOk.eq ef ?_
    obtain ⟨g, hg, eg⟩ := (hI.2.2.2.2 s w hs hw).2.2.2.2.2.2.2.1
    have k4 : A 4 s w = 0 := ((hI.2.2.2.2 s w hs hw).2.1).resolve_right (fun z => by
      have := (hI.2.2.2.2 s w hs hw).2.2.2.2.2.2.2.2.2.2.1 z
      rw [this] at k7; exact absurd k7 (by decide))
    rw [F_Village_sendNews]
    have e54 : F_Row_get v 53 (nI (20 * s + w)) s1 = some (nI g) := by
      rw [r_get53 (by omega), ((R1.2.2.2.2.1 s w hs hw).1 (by rw [oP 7 s w (by decide) (by decide)]; exact k7)).2, oP 9 s w (by decide) (by decide), eg]
    refine zOk.bind (P := fun σ' => zVr σ' v (aup (aNote (aEn A n s w false) s false w (zm (aHd A s) n) (aTm2 A n s w false)) 7 s w 0) n m c ∧ v7 σ' v (aSpeak A n s w false) ∧ zfV v σ σ') (zOk.eq (r_cell s1) (zOk.eq e54 ?_)) (fun s5 ⟨R5, V5, f5⟩ => ?_)
    · rw [nI_1]
      refine c_sendNewsL R1 I1 hs hw (g := g + 1) (by omega) aHd_s (fun st j Rn Jn => ?_)
      have ehops : nI (g + 1) = A 9 s w + 1 := by rw [eg, nI_1]
      rw [ehops] at Rn ⊢
      have Rn : zVr st v (aEn A n s w false) n m c := Rn
      have hn' : st.1 v 3 0 = nI n := Rn.1.2.2.2.2.1
      rw [e_Village_sendNews_0, hn', if_pos (nI_le0 (by omega))]
      refine zOk.eq (c_rem43 (by omega)) ?_
      have hZ : zSz (aNote (aEn A n s w false) s false w (zm (aHd A s) n) (aTm2 A n s w false)) n m := zSz_cg (A := A) (fun k hk => by rw [aNote, if_neg (by omega), if_neg (by omega), aEn_at (by omega)]) hI.1
      have R2 := R_has0 (R_note Rn (s := s) (w := w) (k := false) (hm := zm (aHd A s) n) (tm := aTm2 A n s w false)) hZ hs hw
      have J2 := (J1.tr Jn).tr (zJk.st st v (o := 45) s (st.1 v 45 s &&& (((1 : Int32) <<< (nI w &&& 31)) ^^^ (-1 : Int32))) (by decide))
      generalize zst st v 45 s (st.1 v 45 s &&& (((1 : Int32) <<< (nI w &&& 31)) ^^^ (-1 : Int32))) = s2 at R2 J2 ⊢
      have e8 : s2.1 v 0 1 = A 0 8 0 := R2.1.2.1.trans (by rw [aup, if_neg (by omega), aNote, if_neg (by omega), if_neg (by omega), aEn_at (by omega)])
      rw [e8]
      have h72 : v7 s2 v A := h7.cg J2.2 rfl (fun _ _ => rfl)
      refine zOk.bind (c_journal (x := aNw A n s w false) h72 ht1 (by omega) (A' := aSpeak A n s w false) (by rw [aSpk_10, ht1, nI_1]) (fun i j hi hj => aSpk_12 hi hj)) (fun s6 ⟨V6, f6, x6⟩ => ⟨_, rfl, R2.cgs x6, V6, J2.1.tr f6⟩)
    · have A3 : aSpeak A n s w false = aup (aNote (aEn A n s w false) s false w (zm (aHd A s) n) (aTm2 A n s w false)) 7 s w 0 := by rw [aSpeak_eq, if_neg (by decide)]
      have IE : aInv (aEn A n s w false) n m T := by
        have := aInv_pr I1 hs hw (g := g + 1) (by omega) (fun z => by cases z) (aHd A s) n (Nat.le_refl n) (k := false)
        unfold aEn
        rw [eg, nI_1]; exact this
      have I3 : aInv (aSpeak A n s w false) n m T := by rw [A3]; exact aInv_has0 (aInv_note IE)
      have DE : aDue (aEn A n s w false) n m := by
        have := aDue_prF (n := n) (hd := aHd A s) I1 (aDue_cg hD (fun f h w q => oP f h w (by omega) (by omega))) hs hw (g := g + 1) (by omega) aHd_s (by rw [oP 4 s w (by decide) (by decide)]; exact k4) n (Nat.le_refl n)
        unfold aEn
        rw [eg, nI_1]; exact this
      have D3 : aDue (aSpeak A n s w false) n m := by
        rw [A3]
        exact aDue_cg DE (fun f h w q => by rw [aup, if_neg (by omega), aNote, if_neg (by omega), if_neg (by omega)])
      have fin := c_tick (A3 := aSpeak A n s w false) (s3 := s5) (v := v) (c := c) (by rw [aPaid_id D3, A3]; exact R5) V5 I3 (lg w false) hT
      exact ⟨_, rfl, fin, f5.tr (zfV.st v s5 0 1 _)⟩
  | some w =>
    obtain ⟨hw, g2, -⟩ := zbest_some e1
    simp only [Bool.and_eq_true, decide_eq_true_eq] at g2
    have c0 : ¬ zm (fun w => decide (A 10 s w = 1) && aSend A n s w) m = 0 := fun z => by
      have := (zm_zero (by omega)).mp z w hw
      simp [g2] at this
    have ee : e = 2 * w + 1 := by
      unfold aFirst at he
      rw [e1] at he; cases he; rfl
    subst ee
    rw [show (2 * w + 1) / 2 = w by omega, show decide ((2 * w + 1) % 2 = 1) = true from decide_eq_true (by omega)]
    refine zOk.neg c0 ?_
    have ef : F_Entries_first v 48 (nI s) (zm (fun w => decide (A 10 s w = 1) && aSend A n s w) m) s1 = some (nI w) := by
      rw [c_first48 R1 I1 hs (fun w _ q => by
        rw [oP 10 s w (by decide) (by decide)]
        rw [Bool.and_eq_true] at q; simpa using q.1)]
      congr 1
      have : zbest (fun w => decide (A 10 s w = 1) && aSend A n s w) (fun w => aSd (aSp A s) (aHd A s) n 11 s w) m = aFc A n m s := zbest_cong (fun _ _ => rfl) (fun i _ _ => oP 11 s i (by decide) (by decide))
      rw [this, e1]; rfl
    refine zOk.eq ef ?_
    obtain ⟨g, hg, eg⟩ := (hI.2.2.2.2 s w hs hw).2.2.2.2.2.2.2.1
    have b1 := (hI.2.2.2.2 s w hs hw).2.2.2.2.2.2.2.2.2.2.2 g2.1
    have k2 : ¬ A 2 w 4 = -1 := fun z => by
      have := hI.2.2.2.1 w hw z s hs
      rw [this] at b1; exact absurd b1 (by decide)
    have IE : aInv (aEn A n s w true) n m T := by
      have := aInv_pr I1 hs hw (g := g + 1) (by omega) (fun _ => by rw [oP 2 w 4 (by decide) (by decide)]; exact k2) (aHd A s) n (Nat.le_refl n) (k := true)
      unfold aEn
      rw [eg, nI_1]; exact this
    have E10 : aEn A n s w true 10 s w = 1 := by
      rw [aEn_at ⟨Or.inr (Or.inr ⟨by decide, by decide, fun z => by rw [aHd_s] at z; exact absurd z.2.2 (by decide)⟩), by decide, by omega⟩]; exact g2.1
    have A3 : aSpeak A n s w true = aup (aNote (aEn A n s w true) s true w (zm (aHd A s) n) (aTm2 A n s w true)) 11 s w (nI (T + 1)) := by rw [aSpeak_eq, if_pos rfl, eT, nI_1]
    have I3 : aInv (aSpeak A n s w true) n m T := by rw [A3]; exact aInv_owt (aInv_note IE)
    rw [F_Village_sendCorrection]
    refine zOk.bind (P := fun σ' => zVr σ' v (aPaid (aSpeak A n s w true) n m) n m c ∧ v7 σ' v (aSpeak A n s w true) ∧ zfV v σ σ') ?_ (fun s5 ⟨R5, V5, f5⟩ => ⟨_, rfl, c_tick R5 V5 I3 (lg w true) hT, f5.tr (zfV.st v s5 0 1 _)⟩)
    refine c_sendCorrL R1 I1 hs hw (g := g + 1) (by omega) (by rw [oP 2 w 4 (by decide) (by decide)]; exact k2) (fun st j Rn Jn => ?_)
    have ehops : nI (g + 1) = A 9 s w + 1 := by rw [eg, nI_1]
    rw [ehops] at Rn ⊢
    have Rn : zVr st v (aEn A n s w true) n m c := Rn
    have hn' : st.1 v 3 0 = nI n := Rn.1.2.2.2.2.1
    rw [e_Village_sendCorrection_0, hn', if_pos (nI_le0 (by omega))]
    have e80 : st.1 v 0 1 = A 0 8 0 := Rn.1.2.1.trans (aEn_at (by omega))
    rw [e80, eT, nI_1]
    refine zOk.eq (c_put48 (by omega) (by omega) _) ?_
    have R2 : zVr (zst (zst st v 50 s (st.1 v 50 s ||| ((1 : Int32) <<< (nI w &&& 31)))) v 52 (20 * s + w) (nI (T + 1))) v (aup (aEn A n s w true) 11 s w (nI (T + 1))) n m c := (R_owe1 Rn IE.1 hs hw (nI (T + 1))).cga (fun f i j => by
      simp only [aup]
      by_cases z : f = 11 ∧ i = s ∧ j = w
      · rw [if_pos z, if_pos z]
      · rw [if_neg z, if_neg z]
        by_cases y : f = 10 ∧ i = s ∧ j = w
        · obtain ⟨rfl, rfl, rfl⟩ := y
          rw [if_pos ⟨rfl, rfl, rfl⟩, E10]
        · rw [if_neg y])
    have J2 := ((J1.tr Jn).tr (zJk.st st v (o := 50) s (st.1 v 50 s ||| ((1 : Int32) <<< (nI w &&& 31))) (by decide))).tr (zJk.st _ v (o := 52) (20 * s + w) (nI (T + 1)) (by decide))
    generalize zst (zst st v 50 s (st.1 v 50 s ||| ((1 : Int32) <<< (nI w &&& 31)))) v 52 (20 * s + w) (nI (T + 1)) = s2 at R2 J2 ⊢
    have I2 : aInv (aup (aEn A n s w true) 11 s w (nI (T + 1))) n m T := aInv_owt IE
    refine zOk.bind (c_drop R2 I2 hw) (fun s3 ⟨R3, J3⟩ => ?_)
    have e8 : s3.1 v 0 1 = A 0 8 0 := R3.1.2.1.trans (by rw [aPaid1, if_neg (by omega), aup, if_neg (by omega), aEn_at (by omega)])
    rw [e8]
    have h73 : v7 s3 v A := h7.cg (J2.tr J3).2 rfl (fun _ _ => rfl)
    refine zOk.bind (c_journal (x := aNw A n s w true) h73 ht1 (by omega) (A' := aSpeak A n s w true) (by rw [aSpk_10, ht1, nI_1]) (fun i j hi hj => aSpk_12 hi hj)) (fun s6 ⟨V6, f6, x6⟩ => ⟨_, rfl, (R3.cgs x6).cgc (fun f i j q1 q2 => ?_), V6, (J2.tr J3).1.tr f6⟩)
    -- what the class drops is what is paid
    have nt : ∀ f i j, ¬ (f = 0 ∧ 10 ≤ i) → f ≠ 12 → aSpeak A n s w true f i j = aup (aEn A n s w true) 11 s w (nI (T + 1)) f i j := fun f i j a b => by
      rw [A3]
      unfold aup
      by_cases z : f = 11 ∧ i = s ∧ j = w
      · rw [if_pos z, if_pos z]
      · rw [if_neg z, if_neg z, aNote, if_neg (by omega), if_neg (by omega)]
    have ow : ∀ i j, aOws (aSpeak A n s w true) n i j = aOws (aup (aEn A n s w true) 11 s w (nI (T + 1))) n i j := fun i j => aOws_cg (fun k _ => nt 4 k j (by omega) (by decide)) (fun k _ => nt 5 k j (by omega) (by decide))
    unfold aPaid1 aPaid
    rw [nt f i j q1 q2]
    by_cases y10 : f = 10
    · subst y10
      rw [nt 10 i j (by omega) (by decide), ow]
      by_cases y : i < n ∧ j < m ∧ aup (aEn A n s w true) 11 s w (nI (T + 1)) 10 i j = 1 ∧ aOws (aup (aEn A n s w true) 11 s w (nI (T + 1))) n i j = 0
      · rw [if_pos (show 10 = 10 ∧ i < n ∧ j < m ∧ aup (aEn A n s w true) 11 s w (nI (T + 1)) 10 i j = 1 ∧ aOws (aup (aEn A n s w true) 11 s w (nI (T + 1))) n i j = 0 from ⟨rfl, y⟩)]
        by_cases jw : j = w
        · rw [if_pos ⟨rfl, y.1, jw, y.2.2.2⟩]
        · -- another news is owed as before
          exfalso
          have q3 : aup (aEn A n s w true) 11 s w (nI (T + 1)) 10 i j = A 10 i j := by
            rw [aup, if_neg (by omega), aEn_at ⟨Or.inr (Or.inr ⟨by decide, by decide, fun z => jw z.2.1⟩), by decide, by omega⟩]
          have q4 : aOws (aup (aEn A n s w true) 11 s w (nI (T + 1))) n i j = aOws A n i j := aOws_cg
            (fun k _ => by rw [aup, if_neg (by omega), aEn_at ⟨Or.inr (Or.inr ⟨by decide, by decide, fun z => jw z.2.1⟩), by decide, by omega⟩])
            (fun k _ => by rw [aup, if_neg (by omega), aEn_at ⟨Or.inr (Or.inr ⟨by decide, by decide, fun z => jw z.2.1⟩), by decide, by omega⟩])
          rw [q3, q4] at y
          exact hD i j y.1 y.2.1 y.2.2.1 y.2.2.2
      · rw [if_neg (show ¬ (10 = 10 ∧ i < n ∧ j < m ∧ aup (aEn A n s w true) 11 s w (nI (T + 1)) 10 i j = 1 ∧ aOws (aup (aEn A n s w true) 11 s w (nI (T + 1))) n i j = 0) from fun z => y z.2)]
        by_cases z : i < n ∧ j = w ∧ aOws (aup (aEn A n s w true) 11 s w (nI (T + 1))) n i j = 0
        · rw [if_pos ⟨rfl, z⟩]
          obtain ⟨z1, rfl, z3⟩ := z
          rcases (I2.2.2.2.2 i j z1 hw).2.2.2.1 with u | u
          · exact u.symm
          · exact absurd ⟨z1, hw, u, z3⟩ y
        · rw [if_neg (fun u => z u.2)]
    · rw [if_neg (fun u => y10 u.1), if_neg (fun u => y10 u.1)]
theorem c_minute (hC : zC σ v A n m c T) (hT : T + 1 < 2 ^ 28) : zOk (F_Village_minute v σ) (fun σ' => zC σ' v (aMin A n m) n m c (T + 1) ∧ zfV v σ σ') := by
  obtain ⟨hR, h7, hI, hD, hL⟩ := hC
  have hn := hI.1.2.2.1
  have hm := hI.1.2.2.2
  rw [F_Village_minute]
  refine zOk.bind (c_beginDay hR hI) (fun s1 ⟨R1, J1⟩ => ?_)
  have I1 := aInv_begin hI
  have D1 : aDue (aBegin A n) n m := aDue_cg hD (fun f h w q => aBegin_at (Or.inl (by omega)))
  have L1 : aLg (aBegin A n) T := by
    obtain ⟨t, h1, h2, h3⟩ := hL
    exact ⟨t, h1, by rw [aBegin_at (Or.inl (by decide))]; exact h2, by rw [aBegin_at (Or.inl (by decide))]; exact h3⟩
  have V1 : v7 s1 v (aBegin A n) := h7.cg J1.2 (aBegin_at (Or.inl (by decide))) (fun i j => aBegin_at (Or.inl (by decide)))
  have e8 : A 0 8 0 + 1 = nI (T + 1) := by rw [hI.2.1.2.1, nI_1]
  unfold aMin
  dsimp only
  rw [e8]
  generalize aBegin A n = A1 at *
  refine zOk.eq (c_wishing R1 I1) ?_
  refine zOk.ite (fun q => ?_) (fun q => ?_)
  · rw [if_pos q]
    obtain ⟨t, h1, h2, h3⟩ := L1
    exact ⟨_, rfl, c_tick (by rw [aPaid_id D1]; exact R1) V1 I1 ⟨t, by omega, h2, h3⟩ hT, J1.1.tr (zfV.st v s1 0 1 _)⟩
  · rw [if_neg q]
    have hsh : ∀ i, i < n → A1 1 i 4 = nI (aSh A1 i) ∧ 0 < aSh A1 i ∧ aSh A1 i < 10 := fun i hi => by
      obtain ⟨-, -, -, -, s, h1, h2, h3⟩ := I1.2.2.1 i hi
      unfold aSh
      rw [h3, nI_clamp (by omega)]
      exact ⟨rfl, by omega, by omega⟩
    obtain ⟨-, -, g3, g4⟩ := aSpk_in hn hsh q
    refine zOk.bd2 (c_drawnOf R1 I1 q) (fun r s2 ⟨hr, R2, h2⟩ => ?_)
    have hr : r = nI (aSpk A1 n m) := hr
    have R2 : zVr s2 v (aup A1 0 9 0 (nI (aX A1))) n m c := R2
    have h2 : s2 = zst s1 v 0 2 (nI (aX A1)) := h2
    have edr : aDrawn A1 n m = aup A1 0 9 0 (nI (aX A1)) := if_neg q
    rw [hr, edr]
    generalize hsk : aSpk A1 n m = s at *
    have g4w := g4
    unfold aWish at g4w
    simp only [Bool.and_eq_true, Bool.not_eq_true', decide_eq_false_iff_not] at g4w
    have I2 : aInv (aup A1 0 9 0 (nI (aX A1))) n m T := aInv_x I1 (Nat.mod_lt _ (by decide))
    have J2 : zJk v σ s2 := by rw [h2]; exact J1.tr (zJk.st s1 v (o := 0) 2 _ (by decide))
    have dz : ∀ f i j, f ≠ 0 → aup A1 0 9 0 (nI (aX A1)) f i j = A1 f i j := fun f i j h => by rw [aup, if_neg (fun z => h z.1)]
    have ow : ∀ h w, aOws (aup A1 0 9 0 (nI (aX A1))) n h w = aOws A1 n h w := fun h w => aOws_cg (fun i _ => dz _ _ _ (by decide)) (fun i _ => dz _ _ _ (by decide))
    have nr : ∀ h, aNear (aup A1 0 9 0 (nI (aX A1))) n h = aNear A1 n h := fun h => zm_congr (fun i _ => by unfold aRng aDist; simp [aup])
    cases ef : aFirst A1 n m s with
    | none => rw [ef] at g4w; exact absurd g4w.2 (by decide)
    | some e =>
      have ef2 : aFirst (aup A1 0 9 0 (nI (aX A1))) n m s = some e := by
        rw [← ef]
        unfold aFirst aFc aFn aSend
        simp only [ow, nr, dz _ _ _ (show (10 : Nat) ≠ 0 by decide), dz _ _ _ (show (11 : Nat) ≠ 0 by decide), dz _ _ _ (show (7 : Nat) ≠ 0 by decide), dz _ _ _ (show (8 : Nat) ≠ 0 by decide)]
      have C2 : zC s2 v (aup A1 0 9 0 (nI (aX A1))) n m c T := by
        refine ⟨R2, V1.cg (fun o i z => by rw [h2, zst_at, if_neg (by omega)]) (by simp [aup]) (fun i j => by simp [aup]), I2, aDue_cg D1 (fun f h w z => dz _ _ _ (by omega)), ?_⟩
        obtain ⟨t, h1, h2, h3⟩ := L1
        exact ⟨t, h1, by simpa [aup] using h2, by simpa [aup] using h3⟩
      have eS : F_Village_sendableCorrections v (nI s) s2 = some (zm (fun w => decide (aup A1 0 9 0 (nI (aX A1)) 10 s w = 1) && aSend (aup A1 0 9 0 (nI (aX A1))) n s w) m) := c_sendable R2 I2 g3
      have eH : F_Row_get v 44 (nI s) s2 = some (zm (fun w => decide (aup A1 0 9 0 (nI (aX A1)) 7 s w = 1)) m) := c_set44 R2 I2 g3
      refine zOk.eq eS (zOk.eq eH ?_)
      refine (c_speak C2 hT g3 ?_ ef2).mono (fun s5 p => ⟨p.1, J2.1.tr p.2⟩)
      simpa [aup] using g4w.1.1.2
end CY

