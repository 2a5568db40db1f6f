/-! speaking, and a whole minute, in the class -/
section CX
variable {σ : zSt} {A : zAb} {n m T v : Nat} {c : Int32}
theorem c_journal {A' : zAb} (h7 : v7 σ v A) {s0 : Nat} (e0 : A 0 10 0 = nI s0) (hs : s0 + 1 < 2 ^ 30) (e1 : A' 0 10 0 = nI (s0 + 1)) {x : Nat → Int32} (e2 : ∀ i k, i < 30 → k < 6 → A' 12 i k = if i = 0 then x k else A 12 (i - 1) k) :
    zOk (F_Journal_add v (x 0) (x 1) (x 2) (x 3) (x 4) (x 5) σ) (fun σ' => v7 σ' v A' ∧ zfV v σ σ' ∧ ∀ o i, o ≠ 59 → o ≠ 61 → σ'.1 v o i = σ.1 v o i) := by
  have hb : ((σ.1 v 59 0) - (σ.1 v 59 0) / (30 : Int32) * (30 : Int32)) * (6 : Int32) = nI (s0 % 30 * 6) := by
    rw [h7.1, e0, show (30 : Int32) = nI 30 from rfl, pk_rem (by omega) (by decide) (by decide), show (6 : Int32) = nI 6 from rfl, pk_mul]
  have hi : ∀ k, k < 6 → s0 % 30 * 6 + k < 180 := fun k hk => by omega
  rw [F_Journal_add, hb, show (1 : Int32) = nI 1 from rfl, show (2 : Int32) = nI 2 from rfl, show (3 : Int32) = nI 3 from rfl, show (4 : Int32) = nI 4 from rfl, show (5 : Int32) = nI 5 from rfl]
  simp only [nI_add]
  refine zOk.eq (r_put60 (by omega) _) (zOk.eq (r_put60 (by omega) _) (zOk.eq (r_put60 (by omega) _) (zOk.eq (r_put60 (by omega) _) (zOk.eq (r_put60 (by omega) _) (zOk.eq (r_put60 (by omega) _) ?_)))))
  refine ⟨_, rfl, ⟨?_, fun s i k q1 q2 q3 q4 q5 => ?_⟩, ((((((zfV.st v _ 61 _ _).tr (zfV.st v _ 61 _ _)).tr (zfV.st v _ 61 _ _)).tr (zfV.st v _ 61 _ _)).tr (zfV.st v _ 61 _ _)).tr (zfV.st v _ 61 _ _)).tr (zfV.st v _ 59 _ _), fun o i a b => by
    rw [zst_at, if_neg (by omega), zst_at, if_neg (by omega), zst_at, if_neg (by omega), zst_at, if_neg (by omega), zst_at, if_neg (by omega), zst_at, if_neg (by omega), zst_at, if_neg (by omega)]⟩
  · rw [zst_at, if_pos ⟨rfl, rfl, rfl⟩, zst_at, if_neg (by omega), zst_at, if_neg (by omega), zst_at, if_neg (by omega), zst_at, if_neg (by omega), zst_at, if_neg (by omega), zst_at, if_neg (by omega), h7.1, e0, e1, nI_add]
  · have es : s = s0 + 1 := by
      rw [e1, nI_eq (by omega) (by omega)] at q1; exact q1.symm
    subst es
    rw [e2 i k q3 q5]
    by_cases y : i = 0
    · subst y
      rw [if_pos rfl]
      have ei : s0 + 1 - 1 - 0 = s0 := by omega
      rw [ei]
      rcases (show k = 0 ∨ k = 1 ∨ k = 2 ∨ k = 3 ∨ k = 4 ∨ k = 5 by omega) with rfl | rfl | rfl | rfl | rfl | rfl <;> simp [zst_at]
    · rw [if_neg y, ← h7.2 s0 (i - 1) k e0 (by omega) (by omega) (by omega) q5]
      have ei : s0 + 1 - 1 - i = s0 - 1 - (i - 1) := by omega
      rw [ei]
      have ne : ∀ j, j < 6 → ¬ (s0 - 1 - (i - 1)) % 30 * 6 + k = s0 % 30 * 6 + j := fun j hj => by omega
      have n0 := ne 0 (by decide)
      rw [Nat.add_zero] at n0
      rw [zst_at, if_neg (by omega), zst_at, if_neg (fun z => ne 5 (by decide) z.2.2), zst_at, if_neg (fun z => ne 4 (by decide) z.2.2), zst_at, if_neg (fun z => ne 3 (by decide) z.2.2), zst_at, if_neg (fun z => ne 2 (by decide) z.2.2), zst_at, if_neg (fun z => ne 1 (by decide) z.2.2), zst_at, if_neg (fun z => n0 z.2.2)]
theorem aTk_e (hI : aInv A n m T) {k : Bool} {h w : Nat} (hh : h < n) (hw : w < m) (q : aTk A k w h = true) : A 4 h w = 0 ∧ (k = false → A 3 h w = 0) := by
  unfold aTk at q
  simp only [Bool.and_eq_true, Bool.not_eq_true', decide_eq_false_iff_not, Bool.or_eq_true] at q
  obtain ⟨p1, p2, -⟩ := hI.2.2.2.2 h w hh hw
  refine ⟨p2.resolve_right q.1, fun z => ?_⟩
  rcases q.2 with y | y
  · rw [z] at y; cases y
  · exact p1.resolve_right y
theorem aInv_pr (hI : aInv A n m T) {s w g : Nat} {k : Bool} (hs : s < n) (hw : w < m) (hg : g ≤ 12) (k2 : k = true → ¬ A 2 w 4 = -1) (hd : Nat → Bool) : ∀ j, j ≤ n → aInv (aPr A n s w k (nI g) hd j) n m T
  | 0, _ => hI
  | j + 1, hj => by
    have ih := aInv_pr hI hs hw hg k2 hd j (by omega)
    rw [aPr]
    by_cases q : (hd j && aTk (aPr A n s w k (nI g) hd j) k w j) = true
    · rw [if_pos q]
      rw [Bool.and_eq_true] at q
      exact aInv_take ih hs (by omega) hw hg (fun z => by rw [aPr_out (Or.inl (by decide))]; exact k2 z) (aTk_e ih (by omega) hw q.2).1
    · rw [if_neg q]; exact ih
/-- the loop of those that take something -/
theorem c_sendNewsL (hR : zVr σ v A n m c) (hI : aInv A n m T) {s w g : Nat} (hs : s < n) (hw : w < m) (hg : g ≤ 12) {hd : Nat → Bool} (h0 : hd s = false) {Q : zSt → Prop}
    (kk : ∀ st j, zVr st v (aPr A n s w false (nI g) hd n) n m c → zJk v σ st → zOk (L_Village_sendNews v (j + 1) 0 (nI s) (nI w) (zm hd n) (nI g) (zm (fun k => hd k && aTk (aPr A n s w false (nI g) hd k) false w k) n) (nI n) st) Q) :
    zOk (L_Village_sendNews v zK 0 (nI s) (nI w) (zm hd n) (nI g) 0 0 σ) Q := by
  have hn := hI.1.2.2.1
  have hm := hI.1.2.2.2
  generalize hpr : aPr A n s w false (nI g) hd = pr at *
  refine z_loopC (fun j k st => L_Village_sendNews v j 0 (nI s) (nI w) (zm hd n) (nI g) (zm (fun k => hd k && aTk (pr k) false w k) k) (nI k) st) n 0 (fun k st => zVr st v (pr k) n m c ∧ zJk v σ st) _ (fun k st hk hJ j nx => ?_) (fun st hJ j hj => kk st j hJ.1 hJ.2) zK σ (zK_lt (by omega)) ⟨by rw [← hpr]; exact hR, zJk.rf⟩
  try dsimp only
  have hIk : aInv (pr k) n m T := by rw [← hpr]; exact aInv_pr hI hs hw hg (fun z => by cases z) hd k (by omega)
  have hpk : pr (k + 1) = if (hd k && aTk (pr k) false w k) = true then aTake (pr k) n s w false (nI g) k else pr k := by rw [← hpr, aPr]
  have hn' : st.1 v 3 0 = nI n := hJ.1.1.2.2.2.2.1
  have tke : aTk (pr k) false w k = (!decide (pr k 4 k w = 1) && !decide (pr k 3 k w = 1)) := by unfold aTk; rw [Bool.false_or]
  have next0 : (hd k && aTk (pr k) false w k) = false → zOk (L_Village_sendNews v j 0 (nI s) (nI w) (zm hd n) (nI g) (zm (fun k => hd k && aTk (pr k) false w k) k) (nI k + 1) st) Q := fun q => by
    have := nx st ⟨by rw [hpk, if_neg (by rw [q]; decide)]; exact hJ.1, hJ.2⟩
    rw [zm_s0 (P := fun k => hd k && aTk (pr k) false w k) q] at this
    rw [nI_1]; exact this
  rw [e_Village_sendNews_0, hn', if_neg (nI_ge hk (by omega))]
  refine zOk.eq (z_contains (by omega) hk st) ?_
  cases c1 : hd k with
  | false => exact zOk.pos rfl (next0 (by rw [c1]; rfl))
  | true =>
    refine zOk.neg (by decide) (zOk.eq (c_isHeardOf hJ.1 hIk hk hw) (zOk.ite (fun c2 => ?_) (fun c2 => next0 ?_)))
    · have c3 : (decide (pr k 3 k w = 1) || decide (pr k 4 k w = 1)) = false := (bI_0 _).mp c2
      rw [Bool.or_eq_false_iff] at c3
      have tk : aTk (pr k) false w k = true := by rw [tke, c3.1, c3.2]; rfl
      obtain ⟨g4, g3⟩ := aTk_e hIk hk hw tk
      have hne : k ≠ s := fun z => by rw [z, h0] at c1; cases c1
      refine zOk.bind (c_get hJ.1 hIk hs hk hne hw hg (g3 rfl) g4) (fun s2 ⟨R2, J2⟩ => zOk.eq (v := (1 : Int32) <<< (nI k &&& 31)) rfl ?_)
      have tt : (hd k && aTk (pr k) false w k) = true := by rw [c1, tk]; rfl
      have e2 : aTake (pr k) n s w false (nI g) k = aup (aGet (pr k) s w k (nI g)) 13 21 0 (pr k 13 21 0 + 1) := if_neg (by decide)
      have := nx s2 ⟨by rw [hpk, if_pos tt, e2]; exact R_c13 R2 (by decide) _, hJ.2.tr J2⟩
      rw [zm_s1 (P := fun k => hd k && aTk (pr k) false w k) tt] at this
      rw [nI_1]; exact this
    · rw [c1, Bool.true_and, tke]
      cases d1 : decide (pr k 3 k w = 1) with
      | true => simp
      | false =>
        cases d2 : decide (pr k 4 k w = 1) with
        | true => rfl
        | false => rw [d1, d2] at c2; exact absurd rfl c2
theorem c_sendCorrL (hR : zVr σ v A n m c) (hI : aInv A n m T) {s w g : Nat} (hs : s < n) (hw : w < m) (hg : g ≤ 12) (k2 : ¬ A 2 w 4 = -1) {hd : Nat → Bool} {Q : zSt → Prop}
    (kk : ∀ st j, zVr st v (aPr A n s w true (nI g) hd n) n m c → zJk v σ st → zOk (L_Village_sendCorrection v (j + 1) 0 (nI s) (nI w) (zm hd n) (zm (fun k => hd k && aTk (aPr A n s w true (nI g) hd k) true w k) n) (nI n) st) Q) :
    zOk (L_Village_sendCorrection v zK 0 (nI s) (nI w) (zm hd n) 0 0 σ) Q := by
  have hn := hI.1.2.2.1
  have hm := hI.1.2.2.2
  generalize hpr : aPr A n s w true (nI g) hd = pr at *
  refine z_loopC (fun j k st => L_Village_sendCorrection v j 0 (nI s) (nI w) (zm hd n) (zm (fun k => hd k && aTk (pr k) true w k) k) (nI k) st) n 0 (fun k st => zVr st v (pr k) n m c ∧ zJk v σ st) _ (fun k st hk hJ j nx => ?_) (fun st hJ j hj => kk st j hJ.1 hJ.2) zK σ (zK_lt (by omega)) ⟨by rw [← hpr]; exact hR, zJk.rf⟩
  try dsimp only
  have hIk : aInv (pr k) n m T := by rw [← hpr]; exact aInv_pr hI hs hw hg (fun _ => k2) hd k (by omega)
  have hpk : pr (k + 1) = if (hd k && aTk (pr k) true w k) = true then aTake (pr k) n s w true (nI g) k else pr k := by rw [← hpr, aPr]
  have k2k : ¬ pr k 2 w 4 = -1 := by rw [← hpr, aPr_out (Or.inl (by decide))]; exact k2
  have hn' : st.1 v 3 0 = nI n := hJ.1.1.2.2.2.2.1
  have tke : aTk (pr k) true w k = !decide (pr k 4 k w = 1) := by unfold aTk; rw [Bool.true_or, Bool.and_true]
  have next0 : (hd k && aTk (pr k) true w k) = false → zOk (L_Village_sendCorrection v j 0 (nI s) (nI w) (zm hd n) (zm (fun k => hd k && aTk (pr k) true w k) k) (nI k + 1) st) Q := fun q => by
    have := nx st ⟨by rw [hpk, if_neg (by rw [q]; decide)]; exact hJ.1, hJ.2⟩
    rw [zm_s0 (P := fun k => hd k && aTk (pr k) true w k) q] at this
    rw [nI_1]; exact this
  rw [e_Village_sendCorrection_0, hn', if_neg (nI_ge hk (by omega))]
  refine zOk.eq (z_contains (by omega) hk st) ?_
  have eB : F_Row_get v 39 (nI w) st = some (zm (fun h => decide (pr k 4 h w = 1)) n) := by rw [r_get39 (by omega), (hJ.1.2.2.1 w hw).2.2.2.2.2.2.2.1]
  cases c1 : hd k with
  | false => exact zOk.pos rfl (next0 (by rw [c1]; rfl))
  | true =>
    refine zOk.neg (by decide) (zOk.eq eB (zOk.eq (z_contains (by omega) hk st) ?_))
    cases c2 : decide (pr k 4 k w = 1) with
    | true => exact zOk.neg (by decide) (next0 (by rw [tke, c2]; simp))
    | false =>
      have tk : aTk (pr k) true w k = true := by rw [tke, c2]; rfl
      have tt : (hd k && aTk (pr k) true w k) = true := by rw [c1, tk]; rfl
      refine zOk.pos rfl (zOk.bind (c_learn hJ.1 hIk hk hw k2k) (fun s2 ⟨R2, J2⟩ => zOk.eq (v := (1 : Int32) <<< (nI k &&& 31)) rfl ?_))
      have e2 : aTake (pr k) n s w true (nI g) k = aup (aLearn (pr k) n k w) 13 22 0 (pr k 13 22 0 + 1) := if_pos rfl
      have := nx s2 ⟨by rw [hpk, if_pos tt, e2]; exact R_c13 R2 (by decide) _, hJ.2.tr J2⟩
      rw [zm_s1 (P := fun k => hd k && aTk (pr k) true w k) tt] at this
      rw [nI_1]; exact this
/-- what is settled of one news -/
def aPaid1 (A : zAb) (n w k : Nat) : zAb := fun f i j => if f = 10 ∧ i < k ∧ j = w ∧ aOws A n i j = 0 then 0 else A f i j
theorem c_drop (hR : zVr σ v A n m c) (hI : aInv A n m T) {w : Nat} (hw : w < m) : zOk (F_Village_dropSettledEntries v (nI w) σ) (fun σ' => zVr σ' v (aPaid1 A n w n) n m c ∧ zJk v σ σ') := by
  have hn := hI.1.2.2.1
  have hm := hI.1.2.2.2
  rw [F_Village_dropSettledEntries]
  refine z_loopC (fun j k st => L_Village_dropSettledEntries v j 0 (nI w) (nI k) st) n 0 (fun k st => zVr st v (aPaid1 A n w k) n m c ∧ zJk v σ st) _ (fun k st hk hJ j nx => ?_) (fun st hJ j hj => ?_) zK σ (zK_lt (by omega)) ⟨hR.cga (fun f i j => by simp [aPaid1]), zJk.rf⟩
  · try dsimp only
    have hn' : st.1 v 3 0 = nI n := hJ.1.1.2.2.2.2.1
    have hIk : aInv (aPaid1 A n w k) n m T := by
      refine ⟨zSz_cg (fun k _ => by simp [aPaid1]) hI.1, aSc_cg (fun k _ => by simp [aPaid1]) hI.2.1, fun h hh => aHf_cg (fun k _ => by simp [aPaid1]) (hI.2.2.1 h hh), fun w hw q h hh => by simpa [aPaid1] using hI.2.2.2.1 w hw (by simpa [aPaid1] using q) h hh, fun h u hh hu => ?_⟩
      obtain ⟨p1, p2, p3, p4, p5, p6, p7, p8, p9, p10, p11, p12⟩ := hI.2.2.2.2 h u hh hu
      have e : ∀ f, f ≠ 10 → aPaid1 A n w k f h u = A f h u := fun f hf => by rw [aPaid1, if_neg (fun z => hf z.1)]
      have e10 : aPaid1 A n w k 10 h u = 0 ∨ aPaid1 A n w k 10 h u = A 10 h u := by
        unfold aPaid1
        split
        · exact Or.inl rfl
        · exact Or.inr rfl
      unfold aPf
      rw [e 3 (by decide), e 4 (by decide), e 5 (by decide), e 6 (by decide), e 7 (by decide), e 8 (by decide), e 9 (by decide), e 11 (by decide)]
      refine ⟨p1, p2, p3, ?_, p5, p6, p7, p8, p9, p10, p11, ?_⟩
      · rcases e10 with z | z
        · exact Or.inl z
        · rw [z]; exact p4
      · intro q
        rcases e10 with z | z
        · rw [z] at q; exact absurd q (by decide)
        · rw [z] at q; exact p12 q
    have ow : aOws (aPaid1 A n w k) n k w = aOws A n k w := aOws_cg (fun i _ => by simp [aPaid1]) (fun i _ => by simp [aPaid1])
    rw [e_Village_dropSettledEntries_0, hn', if_neg (nI_ge hk (by omega))]
    refine zOk.eq (c_owedBy hJ.1 hIk hk hw) ?_
    rw [ow, nI_1]
    refine zOk.ite (fun q => zOk.eq (c_rem48 (by omega)) (nx _ ⟨(R_owe0 hJ.1 hIk.1 hk hw).cga (fun f i j => ?_), hJ.2.tr (zJk.st st v (o := 50) _ _ (by decide))⟩)) (fun q => nx st ⟨hJ.1.cga (fun f i j => ?_), hJ.2⟩)
    · unfold aup aPaid1
      by_cases z : f = 10 ∧ i = k ∧ j = w
      · obtain ⟨rfl, rfl, rfl⟩ := z
        rw [if_pos ⟨rfl, rfl, rfl⟩, if_pos ⟨rfl, Nat.lt_succ_self _, rfl, q⟩]
      · rw [if_neg z]
        by_cases y : f = 10 ∧ i < k ∧ j = w ∧ aOws A n i j = 0
        · rw [if_pos y, if_pos ⟨y.1, by omega, y.2.2⟩]
        · rw [if_neg y, if_neg (fun u => y ⟨u.1, by omega, u.2.2⟩)]
    · unfold aPaid1
      by_cases y : f = 10 ∧ i < k ∧ j = w ∧ aOws A n i j = 0
      · rw [if_pos y, if_pos ⟨y.1, by omega, y.2.2⟩]
      · rw [if_neg y, if_neg (fun u => by
          rcases Nat.lt_or_ge i k with z | z
          · exact y ⟨u.1, z, u.2.2⟩
          · have : i = k := by omega
            subst this
            rw [u.2.2.1] at u; exact q u.2.2.2)]
  · try dsimp only
    have hn' : st.1 v 3 0 = nI n := hJ.1.1.2.2.2.2.1
    rw [e_Village_dropSettledEntries_0, hn', if_pos (nI_le0 (by omega))]
    exact ⟨_, rfl, hJ⟩
end CX

