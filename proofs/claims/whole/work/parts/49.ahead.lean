/-! what a minute counts is what the sets of houses gain; ahead -/
def kS (A : zAb) (p n m : Nat) : Int32 := zs (fun w => zs (fun h => A p h w) n) m
theorem zs_up {f g : Nat → Int32} {i : Nat} {x : Int32} (hx : g i = f i + x) (he : ∀ k, k ≠ i → g k = f k) : ∀ {n : Nat}, i < n → zs g n = zs f n + x
  | 0, h => absurd h (Nat.not_lt_zero i)
  | n + 1, h => by
    rcases Nat.lt_or_ge i n with q | q
    · rw [zs, zs, zs_up hx he q, he n (by omega), Int32.add_assoc, Int32.add_assoc, Int32.add_comm x]
    · have : i = n := by omega
      subst this
      rw [zs, zs, hx, zs_cong (fun k hk => he k (by omega)), Int32.add_assoc]
theorem kS_cg {A B : zAb} {p n m : Nat} (e : ∀ h w, h < n → w < m → B p h w = A p h w) : kS B p n m = kS A p n m :=
  zs_cong (fun w hw => zs_cong (fun h hh => e h w hh hw))
theorem kS_up {A B : zAb} {p n m h w : Nat} (hh : h < n) (hw : w < m) (h0 : A p h w = 0) (h1 : B p h w = 1) (e : ∀ i j, ¬ (i = h ∧ j = w) → B p i j = A p i j) : kS B p n m = kS A p n m + 1 := by
  unfold kS
  refine zs_up (i := w) ?_ (fun k hk => zs_cong (fun i hi => e i k (by omega))) hw
  exact zs_up (i := h) (by rw [h0, h1]; rfl) (fun k hk => e k w (by omega)) hh
def aD (A : zAb) (n m : Nat) : Int32 × Int32 := (A 13 21 0 - kS A 3 n m, A 13 22 0 - kS A 4 n m)
theorem aD_cg {A B : zAb} {n m : Nat} (e3 : ∀ f h w, f = 3 ∨ f = 4 → B f h w = A f h w) (e1 : B 13 21 0 = A 13 21 0) (e2 : B 13 22 0 = A 13 22 0) : aD B n m = aD A n m := by
  unfold aD
  rw [e1, e2, kS_cg (fun h w _ _ => e3 3 h w (by decide)), kS_cg (fun h w _ _ => e3 4 h w (by decide))]
theorem z_subs (a b c : Int32) : a + c - (b + c) = a - b := by
  have h : a + c - (b + c) + (b + c) = a - b + (b + c) := by rw [Int32.sub_add_cancel, ← Int32.add_assoc, Int32.sub_add_cancel]
  exact (Int32.add_right_inj (b + c)).mp (by rw [Int32.add_comm (b + c), h, Int32.add_comm])
section JA
variable {σ : zSt} {K : Nat} {A : zAb} {n m T : Nat} {c : Int32}
theorem aD_take (hI : aInv A n m T) {s w g h : Nat} {k : Bool} (hh : h < n) (hw : w < m) (q : aTk A k w h = true) : aD (aTake A n s w k (nI g) h) n m = aD A n m := by
  obtain ⟨k4, k3⟩ := aTk_e hI hh hw q
  unfold aTake
  cases k with
  | true =>
    rw [if_pos rfl]
    have o3 : ∀ i j, aLearn A n h w 3 i j = A 3 i j := fun i j => by
      unfold aLearn
      split
      · rw [aup_f (by decide), aup_f (by decide)]
      · rw [aup_f (by decide), aup_f (by decide), aup_f (by decide), aup_f (by decide)]
    have o13 : ∀ i j, aLearn A n h w 13 i j = A 13 i j := fun i j => by
      unfold aLearn
      split
      · rw [aup_f (by decide), aup_f (by decide)]
      · rw [aup_f (by decide), aup_f (by decide), aup_f (by decide), aup_f (by decide)]
    have o4 : ∀ i j, aLearn A n h w 4 i j = aup A 4 h w 1 4 i j := fun i j => by
      unfold aLearn
      split
      · rw [aup_f (by decide)]
      · rw [aup_f (by decide), aup_f (by decide), aup_f (by decide)]
    unfold aD
    rw [kS_cg (A := A) (fun i j _ _ => by rw [aup_f (by decide), o3]), kS_up (A := A) (p := 4) hh hw k4 (by rw [aup_f (by decide), o4, aup_s]) (fun i j y => by
      rw [aup_f (by decide), o4]
      exact if_neg (fun z => y ⟨z.2.1, z.2.2⟩)), aup_i (show (21 : Nat) ≠ 22 by decide), aup_s, o13, z_subs]
  | false =>
    have k3 := k3 rfl
    rw [if_neg (by decide)]
    have o3 : ∀ i j, aGet A s w h (nI g) 3 i j = aup A 3 h w 1 3 i j := fun i j => by
      unfold aGet
      split
      · rw [aup_f (by decide), aup_f (by decide)]
      · rw [aup_f (by decide), aup_f (by decide), aup_f (by decide), aup_f (by decide), aup_f (by decide)]
    have oo : ∀ f i j, f = 4 ∨ f = 13 → aGet A s w h (nI g) f i j = A f i j := fun f i j y => by
      unfold aGet
      split
      · rw [aup_f (by omega), aup_f (by omega), aup_f (by omega)]
      · rw [aup_f (by omega), aup_f (by omega), aup_f (by omega), aup_f (by omega), aup_f (by omega), aup_f (by omega)]
    unfold aD
    rw [kS_cg (A := A) (p := 4) (fun i j _ _ => by rw [aup_f (by decide), oo _ _ _ (by decide)]), kS_up (A := A) (p := 3) hh hw k3 (by rw [aup_f (by decide), o3, aup_s]) (fun i j y => by
      rw [aup_f (by decide), o3]
      exact if_neg (fun z => y ⟨z.2.1, z.2.2⟩)), aup_i (show (22 : Nat) ≠ 21 by decide), aup_s, oo 13 22 0 (by decide), z_subs]
theorem aD_pr (hI : aInv A n m T) {s w g : Nat} {k : Bool} (hs : s < n) (hw : w < m) (hg : g ≤ 12) (k2 : k = true → ¬ A 2 w 4 = -1) (hd : Nat → Bool) : ∀ j, j ≤ n → aD (aPr A n s w k (nI g) hd j) n m = aD A n m
  | 0, _ => rfl
  | j + 1, hj => by
    have ih := aD_pr hI hs hw hg k2 hd j (by omega)
    have iv := aInv_pr hI hs hw hg k2 hd j (by omega)
    rw [aPr]
    by_cases q : (hd j && aTk (aPr A n s w k (nI g) hd j) k w j) = true
    · rw [if_pos q]
      rw [Bool.and_eq_true] at q
      rw [aD_take iv (by omega) hw q.2, ih]
    · rw [if_neg q]; exact ih
theorem aD_speak (hI : aInv A n m T) {s e : Nat} (hs : s < n) (hb : ¬ A 1 s 3 < A 0 0 0) (he : aFirst A n m s = some e) : aD (aSpeak A n s (e / 2) (decide (e % 2 = 1))) n m = aD A n m := by
  obtain ⟨⟨hw, ent⟩, -, -⟩ := aFirst_some he
  generalize e / 2 = w at *
  have hdl : ∀ i, i < n → aHd A s i = true → ¬ A 1 i 3 < A 0 1 0 := fun i _ q => by
    unfold aHd at q
    simp only [Bool.and_eq_true, Bool.not_eq_true', decide_eq_false_iff_not] at q
    exact q.2
  have I1 := aInv_spend hI hs hb (aHd A s) aHd_s hdl
  have p := hI.2.2.2.2 s w hs hw
  obtain ⟨g, hg, eg⟩ := p.2.2.2.2.2.2.2.1
  have k2 : decide (e % 2 = 1) = true → ¬ aSd (aSp A s) (aHd A s) n 2 w 4 = -1 := fun q z => by
    rw [aSd_at (by decide), aSp_at (by omega)] at z
    have q := of_decide_eq_true q
    rw [if_pos q] at ent
    have k4 := p.2.2.2.2.2.2.2.2.2.2.2 ent
    rw [hI.2.2.2.1 w hw z s hs] at k4
    exact absurd k4 (by decide)
  have main : aD (aEn A n s w (decide (e % 2 = 1))) n m = aD A n m := by
    unfold aEn
    rw [eg, nI_1, aD_pr I1 hs hw (by omega) k2 (aHd A s) n (Nat.le_refl n)]
    refine aD_cg (fun f h w q => by rw [aSd_at (by omega), aSp_at (by omega)]) ?_ ?_
    · unfold aSd aSp
      simp [aup]
    · unfold aSd aSp
      simp [aup]
  rw [aSpeak_eq, ← main]
  split
  · exact aD_cg (fun f h w q => by rw [aup_f (by omega), aNote, if_neg (by omega), if_neg (by omega)]) (by rw [aup_f (by decide), aNote, if_neg (by omega), if_neg (by omega)]) (by rw [aup_f (by decide), aNote, if_neg (by omega), if_neg (by omega)])
  · exact aD_cg (fun f h w q => by rw [aup_f (by omega), aNote, if_neg (by omega), if_neg (by omega)]) (by rw [aup_f (by decide), aNote, if_neg (by omega), if_neg (by omega)]) (by rw [aup_f (by decide), aNote, if_neg (by omega), if_neg (by omega)])
theorem aD_min (hI : aInv A n m T) : aD (aMin A n m) n m = aD A n m := by
  have hn := hI.1.2.2.1
  have I1 := aInv_begin hI
  have b1 : aD (aBegin A n) n m = aD A n m := aD_cg (fun f h w q => aBegin_at (Or.inl (by omega))) (aBegin_at (Or.inl (by decide))) (aBegin_at (Or.inl (by decide)))
  have pd : ∀ B : zAb, ∀ x : Int32, aD (aup (aPaid B n m) 0 8 0 x) n m = aD B n m := fun B x => aD_cg (fun f h w q => by rw [aup_f (by omega), aPaid, if_neg (by omega)]) (by rw [aup_f (by decide), aPaid, if_neg (by omega)]) (by rw [aup_f (by decide), aPaid, if_neg (by omega)])
  unfold aMin
  dsimp only
  rw [pd]
  rw [← b1]
  generalize aBegin A n = A1 at *
  by_cases q : zm (aWish A1 n m) n = 0
  · rw [if_pos q]
  · rw [if_neg q]
    have hsh := (aInv_c I1).2.2.2
    obtain ⟨-, -, g3, g4⟩ := aSpk_in hn hsh q
    have edr : aDrawn A1 n m = aup A1 0 9 0 (nI (aX A1)) := if_neg q
    rw [edr]
    generalize hsk : aSpk A1 n m = s at *
    have g4w := g4
    unfold aWish at g4w
    simp only [Bool.and_eq_true, Bool.not_eq_true', decide_eq_false_iff_not] at g4w
    have I2 : aInv (aup A1 0 9 0 (nI (aX A1))) n m T := aInv_x I1 (Nat.mod_lt _ (by decide))
    have dz : ∀ f i j, f ≠ 0 → aup A1 0 9 0 (nI (aX A1)) f i j = A1 f i j := fun f i j h => by rw [aup, if_neg (fun z => h z.1)]
    have ow : ∀ h w, aOws (aup A1 0 9 0 (nI (aX A1))) n h w = aOws A1 n h w := fun h w => aOws_cg (fun i _ => dz _ _ _ (by decide)) (fun i _ => dz _ _ _ (by decide))
    have nr : ∀ h, aNear (aup A1 0 9 0 (nI (aX A1))) n h = aNear A1 n h := fun h => zm_congr (fun i _ => by unfold aRng aDist; simp [aup])
    cases ef : aFirst A1 n m s with
    | none => rfl
    | some e =>
      have ef2 : aFirst (aup A1 0 9 0 (nI (aX A1))) n m s = some e := by
        rw [← ef]
        unfold aFirst aFc aFn aSend
        simp only [ow, nr, dz _ _ _ (show (10 : Nat) ≠ 0 by decide), dz _ _ _ (show (11 : Nat) ≠ 0 by decide), dz _ _ _ (show (7 : Nat) ≠ 0 by decide), dz _ _ _ (show (8 : Nat) ≠ 0 by decide)]
      dsimp only
      rw [aD_speak I2 g3 (by simpa [aup] using g4w.1.1.2) ef2]
      exact aD_cg (fun f h w q => aup_f (by omega)) (aup_f (by decide)) (aup_f (by decide))
theorem aD_pass {v : Nat} (hC : zC σ v A n m c T) : ∀ k, T + k < 2 ^ 28 → aD (aPass A n m k) n m = aD A n m
  | 0, _ => rfl
  | k + 1, hT => by
    obtain ⟨s, hs⟩ := c_passN (k := k) hC (by omega)
    rw [aPass, aD_min hs.2.2.1, aD_pass hC k (by omega)]
theorem kS_ct (hI : aInv A n m T) {p : Nat} (hp : p = 3 ∨ p = 4) {w : Nat} (hw : w < m) : zs (fun h => A p h w) n = nI (fb_ct (fun h => decide (A p h w = 1)) n) := by
  rw [← zs_ct]
  refine zs_cong (fun h hh => bI_of ?_)
  rcases hp with rfl | rfl
  · exact (hI.2.2.2.2 h w hh hw).1
  · exact (hI.2.2.2.2 h w hh hw).2.1
theorem x_sizes {B : zAb} {T' : Nat} {c' : Int32} {p o : Nat} (hp : (p = 3 ∧ o = 37) ∨ (p = 4 ∧ o = 39)) {s : zSt} (hC : zC s 0 A n m c T) (hC1 : zC s 1 B n m c' T') : F_Waves_sizesOf 1 o 0 o s = some (kS B p n m - kS A p n m) := by
  have hm := hC.hm
  have hn := hC.hn
  have get : ∀ (v : Nat) (D : zAb) (T0 : Nat) (c0 : Int32), zC s v D n m c0 T0 → ∀ w, w < m → (F_Row_get v o (nI w) s).bind F_Integer_bitCount = some (zs (fun h => D p h w) n) := fun v D T0 c0 hD w hw => by
    obtain ⟨-, -, -, -, -, -, g6, g7, -⟩ := hD.1.2.2.1 w hw
    rcases hp with ⟨rfl, rfl⟩ | ⟨rfl, rfl⟩
    · rw [r_get37 (by omega), Option.bind_some, g6, z_bitCount _ (by omega), kS_ct hD.2.2.1 (Or.inl rfl) hw]
    · rw [r_get39 (by omega), Option.bind_some, g7, z_bitCount _ (by omega), kS_ct hD.2.2.1 (Or.inr rfl) hw]
  have split : ∀ k, zs (fun w => zs (fun h => B p h w) n - zs (fun h => A p h w) n) k = zs (fun w => zs (fun h => B p h w) n) k - zs (fun w => zs (fun h => A p h w) n) k := fun k => by
    induction k with
    | zero => show (0 : Int32) = 0 - 0; decide
    | succ k ih =>
      rw [zs, zs, zs, ih]
      generalize zs (fun w => zs (fun h => B p h w) n) k = a
      generalize zs (fun w => zs (fun h => A p h w) n) k = b
      generalize zs (fun h => B p h k) n = d
      generalize zs (fun h => A p h k) n = e
      rw [Int32.sub_eq_add_neg, Int32.sub_eq_add_neg, Int32.sub_eq_add_neg, Int32.neg_add, Int32.add_assoc, Int32.add_assoc, Int32.sub_eq_add_neg]
      congr 1
      rw [← Int32.add_assoc, ← Int32.add_assoc, Int32.add_comm (-b)]
  unfold kS
  rw [← split]
  rw [F_Waves_sizesOf]
  refine z_sum (fun j a k => L_Waves_sizesOf 1 o 0 o s j 0 a k) (by omega) _ (fun k hk j a => ?_) (fun j a => ?_)
  · try dsimp only
    have g1 := get 1 B T' c' hC1 k hk
    have g0 := get 0 A T c hC k hk
    obtain ⟨x1, y1, z1⟩ := bd_s g1
    obtain ⟨x0, y0, z0⟩ := bd_s g0
    rw [e_Waves_sizesOf_0, hC.1.1.2.2.2.2.2.1, if_neg (nI_ge hk (by omega)), y1, Option.bind_some, z1, Option.bind_some, y0, Option.bind_some, z0, Option.bind_some]
  · try dsimp only
    rw [e_Waves_sizesOf_0, hC.1.1.2.2.2.2.2.1, if_pos (nI_le0 (by omega))]
/-- all three counters begin anew -/
def aZ (A : zAb) : zAb := aup (aup (aup A 13 21 0 0) 13 22 0 0) 13 23 0 0
theorem aZ_W : aW A (aZ A) = aZ A := by
  funext f i j
  by_cases q : f = 13
  · subst q; rw [aW_13]
  · rw [aW_ne q, aZ, aup_f q, aup_f q, aup_f q]
theorem aZ_21 : aZ A 13 21 0 = 0 := by unfold aZ; rw [aup_i (by decide), aup_i (by decide), aup_s]
theorem aZ_22 : aZ A 13 22 0 = 0 := by unfold aZ; rw [aup_i (by decide), aup_s]
theorem aZ_23 : aZ A 13 23 0 = 0 := by unfold aZ; rw [aup_s]
theorem j_ahead (J : zJ σ K) (hK : K + 501 < 2 ^ 28) (a b : Int32) : zRI K (F_Law_ahead a b σ) (F_Model_ahead a b) := by
  obtain ⟨A, n, m, c, T, hT, hC, hM, hp⟩ := id J
  have hn := hC.hn
  have hm := hC.hm
  cases q1 : zBt a 1 500 with
  | false =>
    refine zRI.no (k := 1) J hM ?_ (by decide) (fun s hs _ => ?_)
    · simp only [F_Law_ahead, F_Waves_ahead, x_in0 q1, Option.bind_some, bd2, F_Model_fail, z10, z20, z00, if_true, if_false, eq_self, zs_AI, zs_SA]
    · simp only [F_Model_ahead, m_in0 q1, Option.bind_some, bd2, F_Model_fail, z10, z20, z00, if_true, if_false, eq_self, zs_AI, zs_SA]
  | true =>
  cases q2 : zBt b 0 3 with
  | false =>
    refine zRI.no (k := 1) J hM ?_ (by decide) (fun s hs _ => ?_)
    · simp only [F_Law_ahead, F_Waves_ahead, x_in1 q1, x_in0 q2, Option.bind_some, bd2, F_Model_fail, z10, z20, z00, if_true, if_false, eq_self, zs_AI, zs_SA]
    · simp only [F_Model_ahead, m_in1 q1, m_in0 q2, Option.bind_some, bd2, F_Model_fail, z10, z20, z00, if_true, if_false, eq_self, zs_AI, zs_SA]
  | true =>
    have q1' := q1
    have q2' := q2
    obtain ⟨k, hk1, hk2, rfl⟩ := z_rng (lo := 1) (hi := 500) q1 (by decide) (by decide)
    obtain ⟨t, -, ht, rfl⟩ := z_rng (lo := 0) (hi := 3) q2 (by decide) (by decide)
    have hZc := zC_aW (B := aZ A) hC
    rw [aZ_W, aZ_23] at hZc
    generalize A 13 23 0 + c - 0 = c0 at hZc
    have hI0 := hZc.2.2.1
    obtain ⟨s1, e1, h1⟩ := c_copyFrom (σ := σ) (v := 1) (v2 := 0) (by decide)
    have hC1 := zC_copy hZc h1
    obtain ⟨s2, e2, h2, h3⟩ := c_pass hC1 (k := k) (by omega) hk2
    have fV := (zfV.co h1).tr h3
    have hZ2 := zC_f1 hZc fV
    have dd := aD_pass hZc k (by omega)
    generalize hB : aPass (aZ A) n m k = B at h2 dd
    unfold aD at dd
    rw [aZ_21, aZ_22] at dd
    obtain ⟨d1, d2⟩ := Prod.mk.inj dd
    have un : ∀ x y z : Int32, x - y = 0 - z → x = y - z := fun x y z h => by
      rw [← Int32.sub_add_cancel x y, h, Int32.zero_sub, Int32.add_comm, Int32.sub_eq_add_neg]
    have d1 := un _ _ _ d1
    have d2 := un _ _ _ d2
    generalize hr : (if t = 0 then B 0 10 0 - A 0 10 0 else if t = 1 then B 13 21 0 else if t = 2 then B 13 22 0 else B 13 23 0) = r
    have ans : F_Waves_ahead (nI k) (nI t) σ = some (.inl (r, s2)) := by
      rw [F_Waves_ahead, x_in1 q1', Option.bind_some]
      dsimp only
      rw [x_in1 q2', Option.bind_some]
      dsimp only
      rw [e1, Option.bind_some, e2, Option.bind_some, ← hr]
      rcases (show t = 0 ∨ t = 1 ∨ t = 2 ∨ t = 3 by omega) with rfl | rfl | rfl | rfl
      · rw [if_pos (show nI 0 = (0 : Int32) from rfl), if_pos rfl, h2.2.1.1, hZ2.2.1.1]
        have : aZ A 0 10 0 = A 0 10 0 := by unfold aZ; rw [aup_f (by decide), aup_f (by decide), aup_f (by decide)]
        rw [this]
      · rw [if_neg (show ¬ nI 1 = (0 : Int32) by decide), if_pos (show nI 1 = (1 : Int32) from rfl), x_sizes (p := 3) (Or.inl ⟨rfl, rfl⟩) hZ2 h2, Option.bind_some, ← d1]
        rfl
      · rw [if_neg (show ¬ nI 2 = (0 : Int32) by decide), if_neg (show ¬ nI 2 = (1 : Int32) by decide), if_pos (show nI 2 = (2 : Int32) from rfl), x_sizes (p := 4) (Or.inr ⟨rfl, rfl⟩) hZ2 h2, Option.bind_some, ← d2]
        rfl
      · rw [if_neg (show ¬ nI 3 = (0 : Int32) by decide), if_neg (show ¬ nI 3 = (1 : Int32) by decide), if_neg (show ¬ nI 3 = (2 : Int32) by decide), h2.1.1.2.2.2.1, hZ2.1.1.2.2.2.1, aZ_23, z_subs, Int32.sub_zero]
        rfl
    refine zRI.ok (r := r) (A' := aW A B) hp hM (by rw [F_Law_ahead, ans]; rfl) (zfX.v1 fV) (zC_aW (zC_f1 hC fV)) hT (Nat.le_refl K) (fun s hs _ => ?_)
    rw [F_Model_ahead, m_in1 q1', Option.bind_some, if_neg (by decide), m_in1 q2', Option.bind_some, if_neg (by decide)]
    refine zOk.bind m_aside (fun s3 k1 => ?_)
    have a1 := zAs.mk0 (hs.t8 0) k1
    have a2 : zAs (zst s 4 80 8 0) (zst (zst (zst s3 4 80 21 0) 4 80 22 0) 4 80 23 0) A (aZ A) :=
      ⟨fun i hi => by rw [zst_at, if_neg (by omega), zst_at, if_neg (by omega), zst_at, if_neg (by omega)]; exact a1.1 i hi, a1.2.1.tr (zfN.m (((zfM.a80 _ (by decide) _).tr (zfM.a80 _ (by decide) _)).tr (zfM.a80 _ (by decide) _))), a1.2.2.1, ((a1.2.2.2.c21 0).c22 0).c23 0⟩
    refine zOk.bind (m_pass a2.2.2.2 hZc (k := k) (by omega) hk2) (fun s4 ⟨g1, g2⟩ => ?_)
    rw [hB] at g1
    have a3 := a2.st g2 g1
    refine zOk.bind a3.back (fun s5 ⟨g3, g4, g5⟩ => ?_)
    have e8 : s5.1 4 80 8 = 0 := by rw [g5 4 80 8 (by omega), g2.2.1 8 (by decide), zst_at, if_neg (by omega), zst_at, if_neg (by omega), zst_at, if_neg (by omega), k1.2.1 4 80 8 (by omega), zst_8]
    have fin : ∀ x, x = r → zOk (some (x, s5)) (fun q => q.1 = r ∧ zMr q.2 (aW A B) ∧ zfN s q.2 ∧ q.2.1 4 80 8 = 0) := fun x hx => ⟨_, rfl, hx, g3, (zfN.t8 s 0).tr g4, e8⟩
    rcases (show t = 0 ∨ t = 1 ∨ t = 2 ∨ t = 3 by omega) with rfl | rfl | rfl | rfl
    · rw [if_pos (show nI 0 = (0 : Int32) from rfl)]
      refine fin _ ?_
      rw [← hr, if_pos rfl, g1.sc (by decide), a1.2.2.2.sc (by decide)]
    · rw [if_neg (show ¬ nI 1 = (0 : Int32) by decide), if_pos (show nI 1 = (1 : Int32) from rfl)]
      refine fin _ ?_
      rw [← hr, g3.2.1, aW_13]; rfl
    · rw [if_neg (show ¬ nI 2 = (0 : Int32) by decide), if_neg (show ¬ nI 2 = (1 : Int32) by decide), if_pos (show nI 2 = (2 : Int32) from rfl)]
      refine fin _ ?_
      rw [← hr, g3.2.2.1, aW_13]; rfl
    · rw [if_neg (show ¬ nI 3 = (0 : Int32) by decide), if_neg (show ¬ nI 3 = (1 : Int32) by decide), if_neg (show ¬ nI 3 = (2 : Int32) by decide)]
      refine fin _ ?_
      rw [← hr, g3.2.2.2, aW_13]; rfl
end JA
