/-! out of 40.whole of whole -/
/-! the whole state: what holds between two calls -/
def zfX (σ σ' : zSt) : Prop := (∀ g o i, g ≠ 0 → g ≠ 1 → σ'.1 g o i = σ.1 g o i) ∧ σ'.2 = σ.2
theorem zfX.rf (σ : zSt) : zfX σ σ := ⟨fun _ _ _ _ _ => rfl, rfl⟩
theorem zfX.tr {σ σ2 σ3 : zSt} (h : zfX σ σ2) (h2 : zfX σ2 σ3) : zfX σ σ3 := ⟨fun g o i a b => (h2.1 g o i a b).trans (h.1 g o i a b), h2.2.trans h.2⟩
theorem zfX.v0 {σ σ' : zSt} (h : zfV 0 σ σ') : zfX σ σ' := ⟨fun g o i a _ => h.1 g o i a, h.2⟩
theorem zfX.v1 {σ σ' : zSt} (h : zfV 1 σ σ') : zfX σ σ' := ⟨fun g o i _ b => h.1 g o i b, h.2⟩
theorem zfX.c0 {σ σ' : zSt} {v b : Nat} (h : zCo σ 0 v b σ') : zfX σ σ' := ⟨fun g o i a _ => h.2.1 g o i a, h.2.2⟩
theorem zfX.c1 {σ σ' : zSt} {v b : Nat} (h : zCo σ 1 v b σ') : zfX σ σ' := ⟨fun g o i _ b => h.2.1 g o i b, h.2.2⟩
theorem zC_fr {σ σ' : zSt} {v n m T : Nat} {A : zAb} {c : Int32} (hC : zC σ v A n m c T) (h : ∀ o i, σ'.1 v o i = σ.1 v o i) : zC σ' v A n m c T := by
  have e : σ'.1 v = σ.1 v := funext fun o => funext fun i => h o i
  unfold zC zVr v1 v2 v3 v4 v5 v6 v7 at *
  rw [e]
  exact hC
theorem z_idx (a : Int32) {n : Nat} (hn : n < 2 ^ 31) : (∃ h, h < n ∧ a = nI h) ∨ (a < 0 ∨ nI n ≤ a) := by
  rcases pk_ix a hn with h | h | h
  · exact Or.inr (Or.inl h)
  · exact Or.inr (Or.inr h)
  · exact Or.inl h
section CW
variable {σ : zSt} {A : zAb} {n m T : Nat} {c : Int32}
theorem zC.hn (hC : zC σ 0 A n m c T) : n ≤ 12 := hC.2.2.1.1.2.2.1
theorem zC.hm (hC : zC σ 0 A n m c T) : m ≤ 20 := hC.2.2.1.1.2.2.2
end CW

/-! out of 41.edits of whole -/
/-! small edits of both; calls: source, owes, seed, set, setQuiet, charge, addHouse, tell, correct, run, spoken, errorCode, errorPosition -/
theorem z10 : ((1 : Int32) = 0) = False := eq_false (by decide)
theorem z20 : ((2 : Int32) = 0) = False := eq_false (by decide)
theorem z00 : ((0 : Int32) = 0) = True := eq_true rfl
theorem zs_AI : ("java/lang/IllegalArgumentException" = "java/lang/IndexOutOfBoundsException") = False := eq_false (by decide)
theorem zs_SA : ("java/lang/IllegalStateException" = "java/lang/IllegalArgumentException") = False := eq_false (by decide)
theorem aup_f {A : zAb} {f i j f' i' j' : Nat} {v : Int32} (h : f' ≠ f) : aup A f i j v f' i' j' = A f' i' j' := if_neg (fun q => h q.1)
theorem aup_j {A : zAb} {f i j f' i' j' : Nat} {v : Int32} (h : j' ≠ j) : aup A f i j v f' i' j' = A f' i' j' := if_neg (fun q => h q.2.2)
theorem aup_i {A : zAb} {f i j f' i' j' : Nat} {v : Int32} (h : i' ≠ i) : aup A f i j v f' i' j' = A f' i' j' := if_neg (fun q => h q.2.1)
theorem aup_s {A : zAb} {f i j : Nat} {v : Int32} : aup A f i j v f i j = v := if_pos ⟨rfl, rfl, rfl⟩
section RE
variable {σ : zSt} {A : zAb} {n m T v : Nat} {c : Int32}
theorem R_h5 (hR : zVr σ v A n m c) (h : Nat) (x : Int32) : zVr (zst σ v 15 h x) v (aup A 1 h 5 x) n m c := by
  obtain ⟨r1, r2, r3, r4, r5, r6⟩ := hR
  refine ⟨r1.cg (fun o i q => by rw [zst_at, if_neg (by omega)]) (fun k _ => by simp [aup]) (by simp [aup]), ?_, r3.cg (fun o i q q2 => by rw [zst_at, if_neg (by omega)]) (fun f i j q => by rw [aup, if_neg (by omega)]), r4.cg (fun o i q => by rw [zst_at, if_neg (by omega)]) (fun f i j q => by rw [aup, if_neg (by omega)]), r5.cg (fun o i q => by rw [zst_at, if_neg (by omega)]) (fun f i j q _ => by rw [aup, if_neg (by omega)]), r6.cg (fun o i q => by rw [zst_at, if_neg (by omega)]) (fun i j => by simp [aup])⟩
  intro i hi
  obtain ⟨h0, h1, h2, h3, h4, h5, h6, h7, h8, h9⟩ := r2 i hi
  have y : ∀ i j, j ≠ 5 → aup A 1 h 5 x 1 i j = A 1 i j := fun i j q => by rw [aup, if_neg (by omega)]
  have x : ∀ o j, o ≠ 15 → (zst σ v 15 h x).1 v o j = σ.1 v o j := fun o j q => by rw [zst_at, if_neg (by omega)]
  refine ⟨by rw [x 5 _ (by decide), y _ 0 (by decide)]; exact h0, by rw [x 7 _ (by decide), y _ 1 (by decide)]; exact h1, by rw [x 9 _ (by decide), y _ 2 (by decide)]; exact h2, by rw [x 11 _ (by decide), y _ 3 (by decide)]; exact h3, by rw [x 13 _ (by decide), y _ 4 (by decide)]; exact h4, ?_, by rw [x 17 _ (by decide), y _ 6 (by decide)]; exact h6, by rw [x 19 _ (by decide), y _ 7 (by decide)]; exact h7, by rw [x 21 _ (by decide), y _ 8 (by decide)]; exact h8, by rw [x 23 _ (by decide), aNear_cg2 (fun i j q => y i j (by omega))]; exact h9⟩
  rw [zst_at]
  by_cases z : i = h
  · subst z; simp [aup]
  · rw [if_neg (by omega)]; simp [aup, z]; exact h5
theorem R_h6 (hR : zVr σ v A n m c) (h : Nat) (x : Int32) : zVr (zst σ v 17 h x) v (aup A 1 h 6 x) n m c := by
  obtain ⟨r1, r2, r3, r4, r5, r6⟩ := hR
  refine ⟨r1.cg (fun o i q => by rw [zst_at, if_neg (by omega)]) (fun k _ => by simp [aup]) (by simp [aup]), ?_, r3.cg (fun o i q q2 => by rw [zst_at, if_neg (by omega)]) (fun f i j q => by rw [aup, if_neg (by omega)]), r4.cg (fun o i q => by rw [zst_at, if_neg (by omega)]) (fun f i j q => by rw [aup, if_neg (by omega)]), r5.cg (fun o i q => by rw [zst_at, if_neg (by omega)]) (fun f i j q _ => by rw [aup, if_neg (by omega)]), r6.cg (fun o i q => by rw [zst_at, if_neg (by omega)]) (fun i j => by simp [aup])⟩
  intro i hi
  obtain ⟨h0, h1, h2, h3, h4, h5, h6, h7, h8, h9⟩ := r2 i hi
  have y : ∀ i j, j ≠ 6 → aup A 1 h 6 x 1 i j = A 1 i j := fun i j q => by rw [aup, if_neg (by omega)]
  have x : ∀ o j, o ≠ 17 → (zst σ v 17 h x).1 v o j = σ.1 v o j := fun o j q => by rw [zst_at, if_neg (by omega)]
  refine ⟨by rw [x 5 _ (by decide), y _ 0 (by decide)]; exact h0, by rw [x 7 _ (by decide), y _ 1 (by decide)]; exact h1, by rw [x 9 _ (by decide), y _ 2 (by decide)]; exact h2, by rw [x 11 _ (by decide), y _ 3 (by decide)]; exact h3, by rw [x 13 _ (by decide), y _ 4 (by decide)]; exact h4, by rw [x 15 _ (by decide), y _ 5 (by decide)]; exact h5, ?_, by rw [x 19 _ (by decide), y _ 7 (by decide)]; exact h7, by rw [x 21 _ (by decide), y _ 8 (by decide)]; exact h8, by rw [x 23 _ (by decide), aNear_cg2 (fun i j q => y i j (by omega))]; exact h9⟩
  rw [zst_at]
  by_cases z : i = h
  · subst z; simp [aup]
  · rw [if_neg (by omega)]; simp [aup, z]; exact h6
theorem R_lot (hR : zVr σ v A n m c) (x : Int32) : zVr (zst σ v 0 2 x) v (aup A 0 9 0 x) n m c := by
  obtain ⟨r1, r2, r3, r4, r5, r6⟩ := hR
  refine ⟨?_, r2.cg (fun o i _ _ => by rw [zst_at, if_neg (by omega)]) (fun i j => by simp [aup]), r3.cg (fun o i _ _ => by rw [zst_at, if_neg (by omega)]) (fun f i j q => by rw [aup, if_neg (by omega)]), r4.cg (fun o i _ => by rw [zst_at, if_neg (by omega)]) (fun f i j q => by rw [aup, if_neg (by omega)]), r5.cg (fun o i _ => by rw [zst_at, if_neg (by omega)]) (fun f i j q _ => by rw [aup, if_neg (by omega)]), r6.cg (fun o i _ => by rw [zst_at, if_neg (by omega)]) (fun i j => by simp [aup])⟩
  obtain ⟨h1, h2, h3, h4, h5, h6, h7⟩ := r1
  refine ⟨?_, ?_, ?_, ?_, ?_, ?_, fun k hk => ?_⟩
  · rw [zst_at, if_neg (by omega), h1]; simp [aup]
  · rw [zst_at, if_neg (by omega), h2]; simp [aup]
  · rw [zst_at, if_pos ⟨rfl, rfl, rfl⟩]; simp [aup]
  · rw [zst_at, if_neg (by omega), h4]; simp [aup]
  · rw [zst_at, if_neg (by omega), h5]
  · rw [zst_at, if_neg (by omega), h6]
  · rw [zst_at, if_neg (by omega), h7 k hk, aup, if_neg (by omega)]
theorem R_dayl (hR : zVr σ v A n m c) (x : Int32) : zVr (zst σ v 0 0 x) v (aup A 0 5 0 x) n m c := by
  obtain ⟨r1, r2, r3, r4, r5, r6⟩ := hR
  refine ⟨?_, r2.cg (fun o i _ _ => by rw [zst_at, if_neg (by omega)]) (fun i j => by simp [aup]), r3.cg (fun o i _ _ => by rw [zst_at, if_neg (by omega)]) (fun f i j q => by rw [aup, if_neg (by omega)]), r4.cg (fun o i _ => by rw [zst_at, if_neg (by omega)]) (fun f i j q => by rw [aup, if_neg (by omega)]), r5.cg (fun o i _ => by rw [zst_at, if_neg (by omega)]) (fun f i j q _ => by rw [aup, if_neg (by omega)]), r6.cg (fun o i _ => by rw [zst_at, if_neg (by omega)]) (fun i j => by simp [aup])⟩
  obtain ⟨h1, h2, h3, h4, h5, h6, h7⟩ := r1
  refine ⟨?_, ?_, ?_, ?_, ?_, ?_, fun k hk => ?_⟩
  · rw [zst_at, if_pos ⟨rfl, rfl, rfl⟩]; simp [aup]
  · rw [zst_at, if_neg (by omega), h2]; simp [aup]
  · rw [zst_at, if_neg (by omega), h3]; simp [aup]
  · rw [zst_at, if_neg (by omega), h4]; simp [aup]
  · rw [zst_at, if_neg (by omega), h5]
  · rw [zst_at, if_neg (by omega), h6]
  · rw [zst_at, if_neg (by omega), h7 k hk, aup, if_neg (by omega)]
theorem R_set (hR : zVr σ v A n m c) {k : Nat} (hk : k < 5) (x : Int32) : zVr (zst σ v 2 k x) v (aup A 0 k 0 x) n m c := by
  obtain ⟨r1, r2, r3, r4, r5, r6⟩ := hR
  refine ⟨?_, r2.cg (fun o i _ _ => by rw [zst_at, if_neg (by omega)]) (fun i j => by simp [aup]), r3.cg (fun o i _ _ => by rw [zst_at, if_neg (by omega)]) (fun f i j q => by rw [aup, if_neg (by omega)]), r4.cg (fun o i _ => by rw [zst_at, if_neg (by omega)]) (fun f i j q => by rw [aup, if_neg (by omega)]), r5.cg (fun o i _ => by rw [zst_at, if_neg (by omega)]) (fun f i j q _ => by rw [aup, if_neg (by omega)]), r6.cg (fun o i _ => by rw [zst_at, if_neg (by omega)]) (fun i j => by simp [aup])⟩
  obtain ⟨h1, h2, h3, h4, h5, h6, h7⟩ := r1
  refine ⟨?_, ?_, ?_, ?_, ?_, ?_, fun i hi => ?_⟩
  · rw [zst_at, if_neg (by omega), h1, aup_i (by omega)]
  · rw [zst_at, if_neg (by omega), h2, aup_i (by omega)]
  · rw [zst_at, if_neg (by omega), h3, aup_i (by omega)]
  · rw [zst_at, if_neg (by omega), h4, aup_f (by omega)]
  · rw [zst_at, if_neg (by omega), h5]
  · rw [zst_at, if_neg (by omega), h6]
  · rw [zst_at]
    by_cases z : i = k
    · subst z; rw [if_pos ⟨rfl, rfl, rfl⟩, aup_s]
    · rw [if_neg (by omega), h7 i hi, aup_i z]
theorem aInv_bat (hI : aInv A n m T) (h : Nat) {x : Nat} (hx : x ≤ 999) : aInv (aup A 1 h 3 (nI x)) n m T := by
  obtain ⟨i1, i2, i3, i4, i5⟩ := hI
  refine ⟨zSz_cg (fun k _ => aup_f (by decide)) i1, aSc_cg (fun k _ => aup_f (by decide)) i2, fun y hy => ?_, fun u hu q y hy => by rw [aup_f (by decide)]; exact i4 u hu (by rw [← q, aup_f (by decide)]) y hy, fun y u hy hu => aPf_cg (fun f a b => aup_f (by omega)) (i5 y u hy hu)⟩
  by_cases z : y = h
  · subst z
    obtain ⟨g0, g1, g2, g3, g4⟩ := i3 y hy
    unfold aHf
    rw [aup_j (by decide), aup_j (by decide), aup_j (by decide), aup_s, aup_j (by decide)]
    exact ⟨g0, g1, g2, ⟨x, hx, rfl⟩, g4⟩
  · exact aHf_cg (fun k _ => aup_i z) (i3 y hy)
theorem aInv_quiet (hI : aInv A n m T) (h : Nat) (x y : Int32) : aInv (aup (aup A 1 h 5 x) 1 h 6 y) n m T :=
  aInv_cg hI (fun k _ => by rw [aup_f (by decide), aup_f (by decide)]) (fun i k _ hk => by rw [aup_j (by omega), aup_j (by omega)]) (fun w _ => by rw [aup_f (by decide), aup_f (by decide)]) (fun f i j a _ => by rw [aup_f (by omega), aup_f (by omega)])
/-- a setting's least and greatest -/
theorem aInv_set (hI : aInv A n m T) {k : Nat} (hk : k < 5) {x : Nat} (hx : nI x ≤ (zfv 2).getD k 0) (h31 : x < 2 ^ 31) : aInv (aup A 0 k 0 (nI x)) n m T := by
  obtain ⟨i1, i2, i3, i4, i5⟩ := hI
  refine ⟨⟨by rw [aup_i (by omega)]; exact i1.1, by rw [aup_i (by omega)]; exact i1.2.1, i1.2.2⟩, ?_, fun y hy => aHf_cg (fun k _ => aup_f (by decide)) (i3 y hy), fun u hu q y hy => by rw [aup_f (by decide)]; exact i4 u hu (by rw [← q, aup_f (by decide)]) y hy, fun y u hy hu => aPf_cg (fun f a b => aup_f (by omega)) (i5 y u hy hu)⟩
  obtain ⟨g1, g2, g3, g4, g5, g6, g7, g8, g9⟩ := i2
  unfold aSc
  rw [aup_i (show 5 ≠ k by omega), aup_i (show 8 ≠ k by omega), aup_i (show 9 ≠ k by omega)]
  refine ⟨g1, g2, g3, g4, ?_⟩
  have lit : ∀ b : Nat, b < 2 ^ 31 → (zfv 2).getD k 0 = nI b → x ≤ b := fun b hb e => by
    rw [e] at hx
    exact (nI_leI h31 hb).mp hx
  rcases (show k = 0 ∨ k = 1 ∨ k = 2 ∨ k = 3 ∨ k = 4 by omega) with rfl | rfl | rfl | rfl | rfl
  · rw [aup_s, aup_i (by decide), aup_i (by decide), aup_i (by decide), aup_i (by decide)]
    exact ⟨⟨x, lit 50 (by decide) rfl, rfl⟩, g6, g7, g8, g9⟩
  · rw [aup_s, aup_i (by decide), aup_i (by decide), aup_i (by decide), aup_i (by decide)]
    exact ⟨g5, ⟨x, lit 20 (by decide) rfl, rfl⟩, g7, g8, g9⟩
  · rw [aup_s, aup_i (by decide), aup_i (by decide), aup_i (by decide), aup_i (by decide)]
    exact ⟨g5, g6, ⟨x, lit 200 (by decide) rfl, rfl⟩, g8, g9⟩
  · rw [aup_s, aup_i (by decide), aup_i (by decide), aup_i (by decide), aup_i (by decide)]
    exact ⟨g5, g6, g7, ⟨x, lit 99 (by decide) rfl, rfl⟩, g9⟩
  · rw [aup_s, aup_i (by decide), aup_i (by decide), aup_i (by decide), aup_i (by decide)]
    exact ⟨g5, g6, g7, g8, ⟨x, lit 11 (by decide) rfl, rfl⟩⟩
theorem aInv_day (hI : aInv A n m T) {x : Nat} (h1 : 24 ≤ x) (h2 : x ≤ 240) : aInv (aup A 0 5 0 (nI x)) n m T := by
  obtain ⟨i1, i2, i3, i4, i5⟩ := hI
  refine ⟨⟨by rw [aup_i (by omega)]; exact i1.1, by rw [aup_i (by omega)]; exact i1.2.1, i1.2.2⟩, ?_, fun y hy => aHf_cg (fun k _ => aup_f (by decide)) (i3 y hy), fun u hu q y hy => by rw [aup_f (by decide)]; exact i4 u hu (by rw [← q, aup_f (by decide)]) y hy, fun y u hy hu => aPf_cg (fun f a b => aup_f (by omega)) (i5 y u hy hu)⟩
  obtain ⟨g1, g2, g3, g4, g5, g6, g7, g8, g9⟩ := i2
  unfold aSc
  rw [aup_s, aup_i (show 8 ≠ 5 by decide), aup_i (show 9 ≠ 5 by decide), aup_i (show 0 ≠ 5 by decide), aup_i (show 1 ≠ 5 by decide), aup_i (show 2 ≠ 5 by decide), aup_i (show 3 ≠ 5 by decide), aup_i (show 4 ≠ 5 by decide)]
  exact ⟨⟨x, h1, h2, rfl⟩, g2, g3, g4, g5, g6, g7, g8, g9⟩
/-- an edit that leaves the queues' due entries and the log -/
theorem zC_e {σ' : zSt} {A' : zAb} (hC : zC σ v A n m c T) (R : zVr σ' v A' n m c) (e : ∀ o i, o = 59 ∨ o = 61 → σ'.1 v o i = σ.1 v o i) (I : aInv A' n m T) (a : ∀ f i j, (f = 0 ∧ 10 ≤ i) ∨ 3 ≤ f → A' f i j = A f i j) : zC σ' v A' n m c T :=
  zC_k hC R e I (a _ _ _ (by omega)) (a _ _ _ (by omega)) (fun i j => a _ _ _ (by omega)) (fun f x y q => a _ _ _ (by omega))
theorem zC_bat (hC : zC σ v A n m c T) (h : Nat) {x : Nat} (hx : x ≤ 999) : zC (zst σ v 11 h (nI x)) v (aup A 1 h 3 (nI x)) n m c T :=
  zC_e hC (R_h3 hC.1 h _) (fun o i q => by rw [zst_at, if_neg (by omega)]) (aInv_bat hC.2.2.1 h hx) (fun f i j q => aup_f (by omega))
theorem zC_quiet (hC : zC σ v A n m c T) (h : Nat) (x y : Int32) : zC (zst (zst σ v 15 h x) v 17 h y) v (aup (aup A 1 h 5 x) 1 h 6 y) n m c T :=
  zC_e hC (R_h6 (R_h5 hC.1 h x) h y) (fun o i q => by rw [zst_at, if_neg (by omega), zst_at, if_neg (by omega)]) (aInv_quiet hC.2.2.1 h x y) (fun f i j q => by rw [aup_f (by omega), aup_f (by omega)])
theorem zC_lot (hC : zC σ v A n m c T) {x : Nat} (hx : x < 1000003) : zC (zst σ v 0 2 (nI x)) v (aup A 0 9 0 (nI x)) n m c T :=
  zC_e hC (R_lot hC.1 _) (fun o i q => by rw [zst_at, if_neg (by omega)]) (aInv_x hC.2.2.1 hx) (fun f i j q => by rcases q with q | q; exact aup_i (by omega); exact aup_f (by omega))
theorem zC_set (hC : zC σ v A n m c T) {k : Nat} (hk : k < 5) {x : Nat} (hx : nI x ≤ (zfv 2).getD k 0) (h31 : x < 2 ^ 31) : zC (zst σ v 2 k (nI x)) v (aup A 0 k 0 (nI x)) n m c T :=
  zC_e hC (R_set hC.1 hk _) (fun o i q => by rw [zst_at, if_neg (by omega)]) (aInv_set hC.2.2.1 hk hx h31) (fun f i j q => by rcases q with q | q; exact aup_i (by omega); exact aup_f (by omega))
theorem zC_day (hC : zC σ v A n m c T) {x : Nat} (h1 : 24 ≤ x) (h2 : x ≤ 240) : zC (zst σ v 0 0 (nI x)) v (aup A 0 5 0 (nI x)) n m c T :=
  zC_e hC (R_dayl hC.1 _) (fun o i q => by rw [zst_at, if_neg (by omega)]) (aInv_day hC.2.2.1 h1 h2) (fun f i j q => by rcases q with q | q; exact aup_i (by omega); exact aup_f (by omega))
end RE

/-! out of 42.calls1 of whole -/
/-! calls of both, one by one -/
theorem zup_id (f : Nat → Nat → Nat → Int32) (g o i : Nat) : zup f g o i (f g o i) = f := by
  funext g' o' j
  unfold zup upd
  by_cases h : (g', o') = (g, o)
  · obtain ⟨rfl, rfl⟩ := Prod.mk.inj h
    rw [if_pos rfl]
    by_cases z : j = i
    · subst z; simp
    · simp [z]
  · rw [if_neg h]
theorem zst_id (σ : zSt) (g o i : Nat) : zst σ g o i (σ.1 g o i) = σ := by
  unfold zst
  rw [zup_id]
theorem x_full (σ : zSt) {v n : Nat} (e : σ.1 v 3 0 = nI n) (hn : n ≤ 12) : F_Homes_isFull v σ = some (if n < 12 then 0 else 1) := by
  rw [F_Homes_isFull, e]
  by_cases q : n < 12
  · rw [if_pos (show nI n < (12 : Int32) from nI_lt (b := 12) q (by decide)), if_pos q]
  · rw [if_neg (show ¬ nI n < (12 : Int32) from nI_nlt (b := 12) (by omega) (by omega)), if_neg q]
theorem x_fullw (σ : zSt) {v m : Nat} (e : σ.1 v 24 0 = nI m) (hm : m ≤ 20) : F_Tidings_isFull v σ = some (if m < 20 then 0 else 1) := by
  rw [F_Tidings_isFull, e]
  by_cases q : m < 20
  · rw [if_pos (show nI m < (20 : Int32) from nI_lt (b := 20) q (by decide)), if_pos q]
  · rw [if_neg (show ¬ nI m < (20 : Int32) from nI_nlt (b := 20) (by omega) (by omega)), if_neg q]
theorem x_elem (j : Nat) {k : Nat} (hk : k < 5) (σ : zSt) : F_Waves_element j (nI k) σ = some ((zfv j).getD k 0) := by
  rw [F_Waves_element, if_neg (nI_pos (by omega)), if_neg (show ¬ (5 : Int32) ≤ nI k from nI_ge (b := 5) hk (by decide)), if_pos (inb_n hk (by decide)), nI_clamp (by omega)]
section J1
variable {σ : zSt} {K : Nat}
end J1

/-! out of 43.calls2 of whole -/
/-! count, house, news -/
theorem zs_fit {f : Nat → Int32} {n : Nat} : ∀ {k : Nat}, n ≤ k → (∀ i, n ≤ i → i < k → f i = 0) → zs f k = zs f n
  | 0, h, _ => by
    have : n = 0 := by omega
    subst this; rfl
  | k + 1, h, e => by
    rcases Nat.eq_or_lt_of_le h with q | q
    · subst q; rfl
    · rw [zs, zs_fit (k := k) (by omega) (fun i a b => e i a (by omega)), e k (by omega) (by omega), Int32.add_zero]
theorem zs_add (f g : Nat → Int32) (n : Nat) : zs f n + zs g n = zs (fun k => f k + g k) n := by
  induction n with
  | zero => rfl
  | succ n ih =>
    rw [zs, zs, zs, ← ih]
    rw [Int32.add_assoc, Int32.add_assoc]
    congr 1
    rw [← Int32.add_assoc, ← Int32.add_assoc, Int32.add_comm (f n)]
def aNq (A : zAb) (m h : Nat) : Nat := fb_ct (fun w => decide (A 7 h w = 1)) m
def aCq (A : zAb) (m h : Nat) : Nat := fb_ct (fun w => decide (A 10 h w = 1)) m
theorem bI_of {x : Int32} (h : x = 0 ∨ x = 1) : x = bI (decide (x = 1)) := by
  rcases h with rfl | rfl <;> rfl
theorem aEntries {A : zAb} {n m T h : Nat} (hI : aInv A n m T) (hh : h < n) : zs (fun w => A 7 h w + A 10 h w) m = nI (aNq A m h + aCq A m h) := by
  rw [← zs_add, ← nI_add]
  unfold aNq aCq
  rw [← zs_ct, ← zs_ct]
  congr 1
  · exact zs_cong (fun w hw => bI_of (hI.2.2.2.2 h w hh hw).2.2.1)
  · exact zs_cong (fun w hw => bI_of (hI.2.2.2.2 h w hh hw).2.2.2.1)
section J2
variable {σ : zSt} {K : Nat}
theorem x_size43 {A : zAb} {n m T h : Nat} {c : Int32} (hC : zC σ 0 A n m c T) (hh : h < n) : F_Entries_size 0 43 (nI h) σ = some (nI (aNq A m h)) := by
  have hn := hC.hn
  rw [c_size43 hC.1 hC.2.2.1 (show h < 12 by omega)]
  unfold aNq
  simp [hh]
theorem x_size48 {A : zAb} {n m T h : Nat} {c : Int32} (hC : zC σ 0 A n m c T) (hh : h < n) : F_Entries_size 0 48 (nI h) σ = some (nI (aCq A m h)) := by
  have hn := hC.hn
  rw [c_size48 hC.1 hC.2.2.1 (show h < 12 by omega)]
  unfold aCq
  simp [hh]
theorem aTotals {A : zAb} {n m T : Nat} (hI : aInv A n m T) : zs (fun h => nI (fb_ct (fun w => decide (h < n) && decide (A 7 h w = 1)) m)) 12 + zs (fun h => nI (fb_ct (fun w => decide (h < n) && decide (A 10 h w = 1)) m)) 12 = zs (fun h => zs (fun w => A 7 h w + A 10 h w) m) n := by
  have hn := hI.1.2.2.1
  have z0 : ∀ (f : Nat → Nat → Bool) i, n ≤ i → nI (fb_ct (fun w => decide (i < n) && f i w) m) = 0 := fun f i hi => by
    have : fb_ct (fun w => decide (i < n) && f i w) m = 0 := fb_ct_zero.mpr (fun k _ => by simp [Nat.not_lt.mpr hi])
    rw [this]; rfl
  rw [zs_fit hn (fun i hi _ => z0 (fun i w => decide (A 7 i w = 1)) i hi), zs_fit hn (fun i hi _ => z0 (fun i w => decide (A 10 i w = 1)) i hi), zs_add]
  refine zs_cong (fun h hh => ?_)
  rw [aEntries hI hh, ← nI_add]
  unfold aNq aCq
  simp [hh]
end J2

/-! out of 44.predict of whole -/
theorem zfV.co {σ s : zSt} {v v2 b : Nat} (h : zCo σ v v2 b s) : zfV v σ s := ⟨h.2.1, h.2.2⟩
section JP
variable {σ : zSt} {K : Nat} {A : zAb} {n m T : Nat} {c : Int32}
/-- the draft at the minute's begin -/
theorem x_wid (hC : zC σ 0 A n m c T) : zOk (F_Waves_wishingInDraft σ) (fun q => q.1 = zm (aWish (aBegin A n) n m) n ∧ zVr q.2 1 (aBegin A n) n m c ∧ zfV 1 σ q.2) := by
  rw [F_Waves_wishingInDraft]
  refine zOk.bind (c_copyFrom (v := 1) (v2 := 0) (by decide)) (fun s1 h1 => ?_)
  have hC1 := zC_copy hC h1
  refine zOk.bind (c_beginDay hC1.1 hC1.2.2.1) (fun s2 ⟨h2, h3⟩ => ?_)
  rw [c_wishing h2 (aInv_begin hC1.2.2.1), Option.bind_some]
  exact ⟨_, rfl, rfl, h2, (zfV.co h1).tr h3.1⟩
theorem zC_f1 {σ' : zSt} (hC : zC σ 0 A n m c T) (h : zfV 1 σ σ') : zC σ' 0 A n m c T := zC_fr hC (fun o i => h.1 0 o i (by decide))
theorem aBegin_13 {i j : Nat} : aBegin A n 13 i j = A 13 i j := aBegin_at (Or.inl (by decide))
theorem aBegin_c (hI : aInv A n m T) : aBegin A n 0 5 0 ≠ 0 ∧ (∀ h w, h < n → w < m → zTm (aBegin A n 8 h w) ∧ zTm (aBegin A n 11 h w)) ∧ (∃ x, x < 1000003 ∧ aBegin A n 0 9 0 = nI x) ∧ (∀ i, i < n → aBegin A n 1 i 4 = nI (aSh (aBegin A n) i) ∧ 0 < aSh (aBegin A n) i ∧ aSh (aBegin A n) i < 10) := aInv_c (aInv_begin hI)
end JP

/-! out of 46.slots of whole -/
section JS
variable {σ : zSt} {K : Nat}
theorem x_slot {s : Nat} (hs : s < 2) (σ : zSt) : F_Waves_savedIn (nI s) σ = some (2 + s) := by
  rcases (show s = 0 ∨ s = 1 by omega) with rfl | rfl <;> rfl
theorem z_bitS (x : Int32) {s t : Nat} (hs : s < 2) (ht : t < 2) : (((x ||| ((1 : Int32) <<< (nI s &&& 31))) >>> (nI t &&& 31)) &&& 1) = 0 ↔ (t ≠ s ∧ ((x >>> (nI t &&& 31)) &&& 1) = 0) := by
  rw [b_has _ (show t < 32 by omega), b_has _ (show t < 32 by omega), b_or, b_one (show s < 32 by omega) (show t < 32 by omega)]
  by_cases z : t = s <;> simp [z]
end JS
section JN
variable {σ : zSt} {K : Nat}
end JN

/-! out of 49.ahead of whole -/
/-! what a minute counts is what the sets of houses gain; ahead -/
def kS (A : zAb) (p n m : Nat) : Int32 := zs (fun w => zs (fun h => A p h w) n) m
theorem zs_up {f g : Nat → Int32} {i : Nat} {x : Int32} (hx : g i = f i + x) (he : ∀ k, k ≠ i → g k = f k) : ∀ {n : Nat}, i < n → zs g n = zs f n + x
  | 0, h => absurd h (Nat.not_lt_zero i)
  | n + 1, h => by
    rcases Nat.lt_or_ge i n with q | q
    · rw [zs, zs, zs_up hx he q, he n (by omega), Int32.add_assoc, Int32.add_assoc, Int32.add_comm x]
    · have : i = n := by omega
      subst this
      rw [zs, zs, hx, zs_cong (fun k hk => he k (by omega)), Int32.add_assoc]
theorem kS_cg {A B : zAb} {p n m : Nat} (e : ∀ h w, h < n → w < m → B p h w = A p h w) : kS B p n m = kS A p n m :=
  zs_cong (fun w hw => zs_cong (fun h hh => e h w hh hw))
theorem kS_up {A B : zAb} {p n m h w : Nat} (hh : h < n) (hw : w < m) (h0 : A p h w = 0) (h1 : B p h w = 1) (e : ∀ i j, ¬ (i = h ∧ j = w) → B p i j = A p i j) : kS B p n m = kS A p n m + 1 := by
  unfold kS
  refine zs_up (i := w) ?_ (fun k hk => zs_cong (fun i hi => e i k (by omega))) hw
  exact zs_up (i := h) (by rw [h0, h1]; rfl) (fun k hk => e k w (by omega)) hh
def aD (A : zAb) (n m : Nat) : Int32 × Int32 := (A 13 21 0 - kS A 3 n m, A 13 22 0 - kS A 4 n m)
theorem aD_cg {A B : zAb} {n m : Nat} (e3 : ∀ f h w, f = 3 ∨ f = 4 → B f h w = A f h w) (e1 : B 13 21 0 = A 13 21 0) (e2 : B 13 22 0 = A 13 22 0) : aD B n m = aD A n m := by
  unfold aD
  rw [e1, e2, kS_cg (fun h w _ _ => e3 3 h w (by decide)), kS_cg (fun h w _ _ => e3 4 h w (by decide))]
theorem z_subs (a b c : Int32) : a + c - (b + c) = a - b := by
  have h : a + c - (b + c) + (b + c) = a - b + (b + c) := by rw [Int32.sub_add_cancel, ← Int32.add_assoc, Int32.sub_add_cancel]
  exact (Int32.add_right_inj (b + c)).mp (by rw [Int32.add_comm (b + c), h, Int32.add_comm])
section JA
variable {σ : zSt} {K : Nat} {A : zAb} {n m T : Nat} {c : Int32}
theorem aD_take (hI : aInv A n m T) {s w g h : Nat} {k : Bool} (hh : h < n) (hw : w < m) (q : aTk A k w h = true) : aD (aTake A n s w k (nI g) h) n m = aD A n m := by
  obtain ⟨k4, k3⟩ := aTk_e hI hh hw q
  unfold aTake
  cases k with
  | true =>
    rw [if_pos rfl]
    have o3 : ∀ i j, aLearn A n h w 3 i j = A 3 i j := fun i j => by
      unfold aLearn
      split
      · rw [aup_f (by decide), aup_f (by decide)]
      · rw [aup_f (by decide), aup_f (by decide), aup_f (by decide), aup_f (by decide)]
    have o13 : ∀ i j, aLearn A n h w 13 i j = A 13 i j := fun i j => by
      unfold aLearn
      split
      · rw [aup_f (by decide), aup_f (by decide)]
      · rw [aup_f (by decide), aup_f (by decide), aup_f (by decide), aup_f (by decide)]
    have o4 : ∀ i j, aLearn A n h w 4 i j = aup A 4 h w 1 4 i j := fun i j => by
      unfold aLearn
      split
      · rw [aup_f (by decide)]
      · rw [aup_f (by decide), aup_f (by decide), aup_f (by decide)]
    unfold aD
    rw [kS_cg (A := A) (fun i j _ _ => by rw [aup_f (by decide), o3]), kS_up (A := A) (p := 4) hh hw k4 (by rw [aup_f (by decide), o4, aup_s]) (fun i j y => by
      rw [aup_f (by decide), o4]
      exact if_neg (fun z => y ⟨z.2.1, z.2.2⟩)), aup_i (show (21 : Nat) ≠ 22 by decide), aup_s, o13, z_subs]
  | false =>
    have k3 := k3 rfl
    rw [if_neg (by decide)]
    have o3 : ∀ i j, aGet A s w h (nI g) 3 i j = aup A 3 h w 1 3 i j := fun i j => by
      unfold aGet
      split
      · rw [aup_f (by decide), aup_f (by decide)]
      · rw [aup_f (by decide), aup_f (by decide), aup_f (by decide), aup_f (by decide), aup_f (by decide)]
    have oo : ∀ f i j, f = 4 ∨ f = 13 → aGet A s w h (nI g) f i j = A f i j := fun f i j y => by
      unfold aGet
      split
      · rw [aup_f (by omega), aup_f (by omega), aup_f (by omega)]
      · rw [aup_f (by omega), aup_f (by omega), aup_f (by omega), aup_f (by omega), aup_f (by omega), aup_f (by omega)]
    unfold aD
    rw [kS_cg (A := A) (p := 4) (fun i j _ _ => by rw [aup_f (by decide), oo _ _ _ (by decide)]), kS_up (A := A) (p := 3) hh hw k3 (by rw [aup_f (by decide), o3, aup_s]) (fun i j y => by
      rw [aup_f (by decide), o3]
      exact if_neg (fun z => y ⟨z.2.1, z.2.2⟩)), aup_i (show (22 : Nat) ≠ 21 by decide), aup_s, oo 13 22 0 (by decide), z_subs]
theorem aD_pr (hI : aInv A n m T) {s w g : Nat} {k : Bool} (hs : s < n) (hw : w < m) (hg : g ≤ 12) (k2 : k = true → ¬ A 2 w 4 = -1) (hd : Nat → Bool) : ∀ j, j ≤ n → aD (aPr A n s w k (nI g) hd j) n m = aD A n m
  | 0, _ => rfl
  | j + 1, hj => by
    have ih := aD_pr hI hs hw hg k2 hd j (by omega)
    have iv := aInv_pr hI hs hw hg k2 hd j (by omega)
    rw [aPr]
    by_cases q : (hd j && aTk (aPr A n s w k (nI g) hd j) k w j) = true
    · rw [if_pos q]
      rw [Bool.and_eq_true] at q
      rw [aD_take iv (by omega) hw q.2, ih]
    · rw [if_neg q]; exact ih
theorem aD_speak (hI : aInv A n m T) {s e : Nat} (hs : s < n) (hb : ¬ A 1 s 3 < A 0 0 0) (he : aFirst A n m s = some e) : aD (aSpeak A n s (e / 2) (decide (e % 2 = 1))) n m = aD A n m := by
  obtain ⟨⟨hw, ent⟩, -, -⟩ := aFirst_some he
  generalize e / 2 = w at *
  have hdl : ∀ i, i < n → aHd A s i = true → ¬ A 1 i 3 < A 0 1 0 := fun i _ q => by
    unfold aHd at q
    simp only [Bool.and_eq_true, Bool.not_eq_true', decide_eq_false_iff_not] at q
    exact q.2
  have I1 := aInv_spend hI hs hb (aHd A s) aHd_s hdl
  have p := hI.2.2.2.2 s w hs hw
  obtain ⟨g, hg, eg⟩ := p.2.2.2.2.2.2.2.1
  have k2 : decide (e % 2 = 1) = true → ¬ aSd (aSp A s) (aHd A s) n 2 w 4 = -1 := fun q z => by
    rw [aSd_at (by decide), aSp_at (by omega)] at z
    have q := of_decide_eq_true q
    rw [if_pos q] at ent
    have k4 := p.2.2.2.2.2.2.2.2.2.2.2 ent
    rw [hI.2.2.2.1 w hw z s hs] at k4
    exact absurd k4 (by decide)
  have main : aD (aEn A n s w (decide (e % 2 = 1))) n m = aD A n m := by
    unfold aEn
    rw [eg, nI_1, aD_pr I1 hs hw (by omega) k2 (aHd A s) n (Nat.le_refl n)]
    refine aD_cg (fun f h w q => by rw [aSd_at (by omega), aSp_at (by omega)]) ?_ ?_
    · unfold aSd aSp
      simp [aup]
    · unfold aSd aSp
      simp [aup]
  rw [aSpeak_eq, ← main]
  split
  · exact aD_cg (fun f h w q => by rw [aup_f (by omega), aNote, if_neg (by omega), if_neg (by omega)]) (by rw [aup_f (by decide), aNote, if_neg (by omega), if_neg (by omega)]) (by rw [aup_f (by decide), aNote, if_neg (by omega), if_neg (by omega)])
  · exact aD_cg (fun f h w q => by rw [aup_f (by omega), aNote, if_neg (by omega), if_neg (by omega)]) (by rw [aup_f (by decide), aNote, if_neg (by omega), if_neg (by omega)]) (by rw [aup_f (by decide), aNote, if_neg (by omega), if_neg (by omega)])
theorem aD_min (hI : aInv A n m T) : aD (aMin A n m) n m = aD A n m := by
  have hn := hI.1.2.2.1
  have I1 := aInv_begin hI
  have b1 : aD (aBegin A n) n m = aD A n m := aD_cg (fun f h w q => aBegin_at (Or.inl (by omega))) (aBegin_at (Or.inl (by decide))) (aBegin_at (Or.inl (by decide)))
  have pd : ∀ B : zAb, ∀ x : Int32, aD (aup (aPaid B n m) 0 8 0 x) n m = aD B n m := fun B x => aD_cg (fun f h w q => by rw [aup_f (by omega), aPaid, if_neg (by omega)]) (by rw [aup_f (by decide), aPaid, if_neg (by omega)]) (by rw [aup_f (by decide), aPaid, if_neg (by omega)])
  unfold aMin
  dsimp only
  rw [pd]
  rw [← b1]
  generalize aBegin A n = A1 at *
  by_cases q : zm (aWish A1 n m) n = 0
  · rw [if_pos q]
  · rw [if_neg q]
    have hsh := (aInv_c I1).2.2.2
    obtain ⟨-, -, g3, g4⟩ := aSpk_in hn hsh q
    have edr : aDrawn A1 n m = aup A1 0 9 0 (nI (aX A1)) := if_neg q
    rw [edr]
    generalize hsk : aSpk A1 n m = s at *
    have g4w := g4
    unfold aWish at g4w
    simp only [Bool.and_eq_true, Bool.not_eq_true', decide_eq_false_iff_not] at g4w
    have I2 : aInv (aup A1 0 9 0 (nI (aX A1))) n m T := aInv_x I1 (Nat.mod_lt _ (by decide))
    have dz : ∀ f i j, f ≠ 0 → aup A1 0 9 0 (nI (aX A1)) f i j = A1 f i j := fun f i j h => by rw [aup, if_neg (fun z => h z.1)]
    have ow : ∀ h w, aOws (aup A1 0 9 0 (nI (aX A1))) n h w = aOws A1 n h w := fun h w => aOws_cg (fun i _ => dz _ _ _ (by decide)) (fun i _ => dz _ _ _ (by decide))
    have nr : ∀ h, aNear (aup A1 0 9 0 (nI (aX A1))) n h = aNear A1 n h := fun h => zm_congr (fun i _ => by unfold aRng aDist; simp [aup])
    cases ef : aFirst A1 n m s with
    | none => rfl
    | some e =>
      have ef2 : aFirst (aup A1 0 9 0 (nI (aX A1))) n m s = some e := by
        rw [← ef]
        unfold aFirst aFc aFn aSend
        simp only [ow, nr, dz _ _ _ (show (10 : Nat) ≠ 0 by decide), dz _ _ _ (show (11 : Nat) ≠ 0 by decide), dz _ _ _ (show (7 : Nat) ≠ 0 by decide), dz _ _ _ (show (8 : Nat) ≠ 0 by decide)]
      dsimp only
      rw [aD_speak I2 g3 (by simpa [aup] using g4w.1.1.2) ef2]
      exact aD_cg (fun f h w q => aup_f (by omega)) (aup_f (by decide)) (aup_f (by decide))
theorem aD_pass {v : Nat} (hC : zC σ v A n m c T) : ∀ k, T + k < 2 ^ 28 → aD (aPass A n m k) n m = aD A n m
  | 0, _ => rfl
  | k + 1, hT => by
    obtain ⟨s, hs⟩ := c_passN (k := k) hC (by omega)
    rw [aPass, aD_min hs.2.2.1, aD_pass hC k (by omega)]
theorem kS_ct (hI : aInv A n m T) {p : Nat} (hp : p = 3 ∨ p = 4) {w : Nat} (hw : w < m) : zs (fun h => A p h w) n = nI (fb_ct (fun h => decide (A p h w = 1)) n) := by
  rw [← zs_ct]
  refine zs_cong (fun h hh => bI_of ?_)
  rcases hp with rfl | rfl
  · exact (hI.2.2.2.2 h w hh hw).1
  · exact (hI.2.2.2.2 h w hh hw).2.1
theorem x_sizes {B : zAb} {T' : Nat} {c' : Int32} {p o : Nat} (hp : (p = 3 ∧ o = 37) ∨ (p = 4 ∧ o = 39)) {s : zSt} (hC : zC s 0 A n m c T) (hC1 : zC s 1 B n m c' T') : F_Waves_sizesOf 1 o 0 o s = some (kS B p n m - kS A p n m) := by
  have hm := hC.hm
  have hn := hC.hn
  have get : ∀ (v : Nat) (D : zAb) (T0 : Nat) (c0 : Int32), zC s v D n m c0 T0 → ∀ w, w < m → (F_Row_get v o (nI w) s).bind F_Integer_bitCount = some (zs (fun h => D p h w) n) := fun v D T0 c0 hD w hw => by
    obtain ⟨-, -, -, -, -, -, g6, g7, -⟩ := hD.1.2.2.1 w hw
    rcases hp with ⟨rfl, rfl⟩ | ⟨rfl, rfl⟩
    · rw [r_get37 (by omega), Option.bind_some, g6, z_bitCount _ (by omega), kS_ct hD.2.2.1 (Or.inl rfl) hw]
    · rw [r_get39 (by omega), Option.bind_some, g7, z_bitCount _ (by omega), kS_ct hD.2.2.1 (Or.inr rfl) hw]
  have split : ∀ k, zs (fun w => zs (fun h => B p h w) n - zs (fun h => A p h w) n) k = zs (fun w => zs (fun h => B p h w) n) k - zs (fun w => zs (fun h => A p h w) n) k := fun k => by
    induction k with
    | zero => show (0 : Int32) = 0 - 0; decide
    | succ k ih =>
      rw [zs, zs, zs, ih]
      generalize zs (fun w => zs (fun h => B p h w) n) k = a
      generalize zs (fun w => zs (fun h => A p h w) n) k = b
      generalize zs (fun h => B p h k) n = d
      generalize zs (fun h => A p h k) n = e
      rw [Int32.sub_eq_add_neg, Int32.sub_eq_add_neg, Int32.sub_eq_add_neg, Int32.neg_add, Int32.add_assoc, Int32.add_assoc, Int32.sub_eq_add_neg]
      congr 1
      rw [← Int32.add_assoc, ← Int32.add_assoc, Int32.add_comm (-b)]
  unfold kS
  rw [← split]
  rw [F_Waves_sizesOf]
  refine z_sum (fun j a k => L_Waves_sizesOf 1 o 0 o s j 0 a k) (by omega) _ (fun k hk j a => ?_) (fun j a => ?_)
  · try dsimp only
    have g1 := get 1 B T' c' hC1 k hk
    have g0 := get 0 A T c hC k hk
    obtain ⟨x1, y1, z1⟩ := bd_s g1
    obtain ⟨x0, y0, z0⟩ := bd_s g0
    rw [e_Waves_sizesOf_0, hC.1.1.2.2.2.2.2.1, if_neg (nI_ge hk (by omega)), y1, Option.bind_some, z1, Option.bind_some, y0, Option.bind_some, z0, Option.bind_some]
  · try dsimp only
    rw [e_Waves_sizesOf_0, hC.1.1.2.2.2.2.2.1, if_pos (nI_le0 (by omega))]
end JA

/-! out of 51.entry of whole -/
/-! entry: the queue's places -/
def zLt (t : Nat → Int32) (x y : Nat) : Prop := (t x).toInt < (t y).toInt ∨ ((t x).toInt = (t y).toInt ∧ x < y)
def bl (w : Nat → Nat) : Nat → Nat → Nat → Bool
  | _, 0, _ => false
  | a, d + 1, x => decide (w a = x) || bl w (a + 1) d x
theorem bl_t {w : Nat → Nat} {x : Nat} : ∀ {d a : Nat}, bl w a d x = true ↔ ∃ b, a ≤ b ∧ b < a + d ∧ w b = x
  | 0, a => by
    constructor
    · intro h; cases h
    · rintro ⟨b, h1, h2, -⟩; omega
  | d + 1, a => by
    rw [bl, Bool.or_eq_true, bl_t, decide_eq_true_eq]
    constructor
    · rintro (h | ⟨b, h1, h2, h3⟩)
      · exact ⟨a, Nat.le_refl a, by omega, h⟩
      · exact ⟨b, by omega, by omega, h3⟩
    · rintro ⟨b, h1, h2, h3⟩
      by_cases z : b = a
      · subst z; exact Or.inl h3
      · exact Or.inr ⟨b, by omega, by omega, h3⟩
theorem zLt_ir {t : Nat → Int32} {x : Nat} : ¬ zLt t x x := by
  rintro (h | ⟨-, h⟩) <;> omega
theorem zLt_as {t : Nat → Int32} {x y : Nat} (h1 : zLt t x y) (h2 : zLt t y x) : False := by
  rcases h1 with h1 | ⟨h1, h3⟩ <;> rcases h2 with h2 | ⟨h2, h4⟩ <;> omega
theorem bl_rest {w : Nat → Nat} {t : Nat → Int32} {N a d x : Nat} (h3 : ∀ a b, a < b → b < N → zLt t (w a) (w b)) (ha : a + d + 1 ≤ N) : (bl w a (d + 1) x && !decide (x = w a)) = bl w (a + 1) d x := by
  rw [bl]
  by_cases z : x = w a
  · subst z
    cases q : bl w (a + 1) d (w a) with
    | true =>
      obtain ⟨b, b1, b2, b3⟩ := bl_t.mp q
      have := h3 a b (by omega) (by omega)
      rw [b3] at this
      exact absurd this zLt_ir
    | false => simp
  · have z2 : ¬ w a = x := fun y => z y.symm
    simp [z, z2]
theorem bl_best {w : Nat → Nat} {t : Nat → Int32} {N m a d : Nat} (hw : ∀ b, b < N → w b < m) (h3 : ∀ a b, a < b → b < N → zLt t (w a) (w b)) (ha : a + d + 1 ≤ N) : zbest (bl w a (d + 1)) t m = some (w a) := by
  cases q : zbest (bl w a (d + 1)) t m with
  | none =>
    have := zbest_none q (w a) (hw a (by omega))
    rw [bl_t.mpr ⟨a, Nat.le_refl a, by omega, rfl⟩] at this
    exact absurd this (by decide)
  | some j =>
    obtain ⟨j1, j2, j3⟩ := zbest_some q
    obtain ⟨b, b1, b2, rfl⟩ := bl_t.mp j2
    by_cases z : b = a
    · subst z; rfl
    · have l1 := h3 a b (by omega) (by omega)
      by_cases y : w a = w b
      · rw [y]
      · exact absurd (j3 (w a) (hw a (by omega)) (bl_t.mpr ⟨a, Nat.le_refl a, by omega, rfl⟩) y) (fun l2 => zLt_as l1 l2)
section JE
variable {σ : zSt} {K : Nat} {A : zAb} {n m T : Nat} {c : Int32}

theorem x_at43 (hC : zC σ 0 A n m c T) {h N : Nat} (hh : h < n) {w : Nat → Nat} (hN : N < 100) (h1 : ∀ a, a < N → w a < m ∧ A 7 h (w a) = 1) (h2 : ∀ x, x < m → A 7 h x = 1 → ∃ a, a < N ∧ w a = x) (h3 : ∀ a b, a < b → b < N → zLt (fun x => A 8 h x) (w a) (w b)) {i : Nat} (hi : i < N) : F_Entries_at 0 43 (nI h) (nI i) σ = some (nI (w i)) := by
  have hn := hC.hn
  have hm := hC.hm
  have fst : ∀ a d, a + d + 1 = N → F_Entries_first 0 43 (nI h) (zm (bl w a (d + 1)) m) σ = some (nI (w a)) := fun a d e => by
    rw [c_first43 hC.1 hC.2.2.1 hh (fun x _ y => by
      obtain ⟨b, _, b2, rfl⟩ := bl_t.mp y
      exact (h1 b (by omega)).2), bl_best (N := N) (fun b hb => (h1 b hb).1) h3 (by omega)]
    rfl
  have e0 : zm (fun x => decide (A 7 h x = 1)) m = zm (bl w 0 N) m := zm_congr (fun x hx => by
    cases q : bl w 0 N x with
    | true =>
      obtain ⟨b, _, b2, rfl⟩ := bl_t.mp q
      exact decide_eq_true (h1 b (by omega)).2
    | false =>
      refine decide_eq_false (fun y => ?_)
      obtain ⟨a, a1, a2⟩ := h2 x hx y
      rw [bl_t.mpr ⟨a, Nat.zero_le a, by omega, a2⟩] at q
      exact absurd q (by decide))
  rw [F_Entries_at, show F_Row_get 0 44 (nI h) σ = some (zm (fun x => decide (A 7 h x = 1)) m) from c_set44 hC.1 hC.2.2.1 hh, Option.bind_some, e0]
  have key : ∀ e a j, a + e = i → e < j → L_Entries_at 0 43 σ j 0 (nI h) (nI i) (zm (bl w a (N - a)) m) (nI a) = some (nI (w i)) := by
    intro e
    induction e with
    | zero =>
      intro a j ha hj
      obtain ⟨j, rfl⟩ : ∃ q, j = q + 1 := ⟨j - 1, by omega⟩
      have : a = i := by omega
      subst this
      rw [e_Entries_at_0, if_pos (nI_le0 (by omega)), show N - a = (N - a - 1) + 1 by omega, fst a _ (by omega), Option.bind_some]
    | succ e ih =>
      intro a j ha hj
      obtain ⟨j, rfl⟩ : ∃ q, j = q + 1 := ⟨j - 1, by omega⟩
      rw [e_Entries_at_0, if_neg (nI_ge (show a < i by omega) (by omega)), show N - a = (N - a - 1) + 1 by omega, fst a _ (by omega), Option.bind_some, F_Waves_bit, Option.bind_some, zm_leave (by omega) (h1 a (by omega)).1, nI_1]
      have e2 : zm (fun x => bl w a (N - a - 1 + 1) x && !decide (x = w a)) m = zm (bl w (a + 1) (N - (a + 1))) m := zm_congr (fun x _ => by
        rw [show N - (a + 1) = N - a - 1 by omega]
        exact bl_rest h3 (by omega))
      rw [e2]
      exact ih (a + 1) j (by omega) (by omega)
  exact key i 0 zK (by omega) (zK_lt (by omega))

theorem x_at48 (hC : zC σ 0 A n m c T) {h N : Nat} (hh : h < n) {w : Nat → Nat} (hN : N < 100) (h1 : ∀ a, a < N → w a < m ∧ A 10 h (w a) = 1) (h2 : ∀ x, x < m → A 10 h x = 1 → ∃ a, a < N ∧ w a = x) (h3 : ∀ a b, a < b → b < N → zLt (fun x => A 11 h x) (w a) (w b)) {i : Nat} (hi : i < N) : F_Entries_at 0 48 (nI h) (nI i) σ = some (nI (w i)) := by
  have hn := hC.hn
  have hm := hC.hm
  have fst : ∀ a d, a + d + 1 = N → F_Entries_first 0 48 (nI h) (zm (bl w a (d + 1)) m) σ = some (nI (w a)) := fun a d e => by
    rw [c_first48 hC.1 hC.2.2.1 hh (fun x _ y => by
      obtain ⟨b, _, b2, rfl⟩ := bl_t.mp y
      exact (h1 b (by omega)).2), bl_best (N := N) (fun b hb => (h1 b hb).1) h3 (by omega)]
    rfl
  have e0 : zm (fun x => decide (A 10 h x = 1)) m = zm (bl w 0 N) m := zm_congr (fun x hx => by
    cases q : bl w 0 N x with
    | true =>
      obtain ⟨b, _, b2, rfl⟩ := bl_t.mp q
      exact decide_eq_true (h1 b (by omega)).2
    | false =>
      refine decide_eq_false (fun y => ?_)
      obtain ⟨a, a1, a2⟩ := h2 x hx y
      rw [bl_t.mpr ⟨a, Nat.zero_le a, by omega, a2⟩] at q
      exact absurd q (by decide))
  rw [F_Entries_at, show F_Row_get 0 49 (nI h) σ = some (zm (fun x => decide (A 10 h x = 1)) m) from by rw [r_get49 (show h < 12 by omega), (hC.1.2.2.2.1 h (show h < 12 by omega)).2]; congr 1; exact zm_congr (fun w _ => by simp [hh]), Option.bind_some, e0]
  have key : ∀ e a j, a + e = i → e < j → L_Entries_at 0 48 σ j 0 (nI h) (nI i) (zm (bl w a (N - a)) m) (nI a) = some (nI (w i)) := by
    intro e
    induction e with
    | zero =>
      intro a j ha hj
      obtain ⟨j, rfl⟩ : ∃ q, j = q + 1 := ⟨j - 1, by omega⟩
      have : a = i := by omega
      subst this
      rw [e_Entries_at_0, if_pos (nI_le0 (by omega)), show N - a = (N - a - 1) + 1 by omega, fst a _ (by omega), Option.bind_some]
    | succ e ih =>
      intro a j ha hj
      obtain ⟨j, rfl⟩ : ∃ q, j = q + 1 := ⟨j - 1, by omega⟩
      rw [e_Entries_at_0, if_neg (nI_ge (show a < i by omega) (by omega)), show N - a = (N - a - 1) + 1 by omega, fst a _ (by omega), Option.bind_some, F_Waves_bit, Option.bind_some, zm_leave (by omega) (h1 a (by omega)).1, nI_1]
      have e2 : zm (fun x => bl w a (N - a - 1 + 1) x && !decide (x = w a)) m = zm (bl w (a + 1) (N - (a + 1))) m := zm_congr (fun x _ => by
        rw [show N - (a + 1) = N - a - 1 by omega]
        exact bl_rest h3 (by omega))
      rw [e2]
      exact ih (a + 1) j (by omega) (by omega)
  exact key i 0 zK (by omega) (zK_lt (by omega))

/-- an entry's facts -/
def aFact (A : zAb) (n h e t : Nat) : Int32 := if t = 0 then bI (decide (e % 2 = 1)) else if t = 1 then nI (e / 2) else if t = 2 then aTm A h e else if t = 3 then (if e % 2 = 1 then -1 else A 9 h (e / 2)) else bI (aCs A n h e)
theorem x_cfact (hC : zC σ 0 A n m c T) {h e t : Nat} (hh : h < n) (ho : e % 2 = 1) (hw : e / 2 < m) (h10 : A 10 h (e / 2) = 1) (ht : t < 5) : F_Waves_correctionEntryFact (nI h) (nI (e / 2)) (nI t) σ = some (aFact A n h e t) := by
  have hn := hC.hn
  have hm := hC.hm
  rw [F_Waves_correctionEntryFact]
  unfold aFact
  rcases (show t = 0 ∨ t = 1 ∨ t = 2 ∨ t = 3 ∨ t = 4 by omega) with rfl | rfl | rfl | rfl | rfl
  · rw [if_pos (show nI 0 = (0 : Int32) from rfl), if_pos rfl, ho]; rfl
  · rw [if_neg (show ¬ nI 1 = (0 : Int32) by decide), if_pos (show nI 1 = (1 : Int32) from rfl)]; rfl
  · rw [if_neg (show ¬ nI 2 = (0 : Int32) by decide), if_neg (show ¬ nI 2 = (1 : Int32) by decide), if_pos (show nI 2 = (2 : Int32) from rfl), F_Entries_time, r_cell, Option.bind_some, r_get51 (by omega), Option.bind_some, Option.bind_some, (hC.1.2.2.2.2.1 h (e / 2) hh hw).2 h10]
    unfold aTm
    rw [if_pos ho]
    rfl
  · rw [if_neg (show ¬ nI 3 = (0 : Int32) by decide), if_neg (show ¬ nI 3 = (1 : Int32) by decide), if_neg (show ¬ nI 3 = (2 : Int32) by decide), if_pos (show nI 3 = (3 : Int32) from rfl), if_pos ho]
    rfl
  · rw [if_neg (show ¬ nI 4 = (0 : Int32) by decide), if_neg (show ¬ nI 4 = (1 : Int32) by decide), if_neg (show ¬ nI 4 = (2 : Int32) by decide), if_neg (show ¬ nI 4 = (3 : Int32) by decide), c_sendable hC.1 hC.2.2.1 hh, Option.bind_some, z_contains (by omega) hw, Option.bind_some]
    have cs : aCs A n h e = aSend A n h (e / 2) := by
      unfold aCs
      rw [if_pos ho]
    rw [cs, h10]
    cases aSend A n h (e / 2) <;> rfl
theorem x_nfact (hC : zC σ 0 A n m c T) {h e t : Nat} (hh : h < n) (ho : e % 2 = 0) (hw : e / 2 < m) (h7 : A 7 h (e / 2) = 1) (ht : t < 5) : F_Waves_newsEntryFact (nI h) (nI (e / 2)) (nI t) σ = some (aFact A n h e t) := by
  have hn := hC.hn
  have hm := hC.hm
  have ho1 : ¬ e % 2 = 1 := by omega
  obtain ⟨g1, g2⟩ := (hC.1.2.2.2.2.1 h (e / 2) hh hw).1 h7
  rw [F_Waves_newsEntryFact]
  unfold aFact
  rcases (show t = 0 ∨ t = 1 ∨ t = 2 ∨ t = 3 ∨ t = 4 by omega) with rfl | rfl | rfl | rfl | rfl
  · rw [if_pos (show nI 0 = (0 : Int32) from rfl), if_pos rfl, ho]; rfl
  · rw [if_neg (show ¬ nI 1 = (0 : Int32) by decide), if_pos (show nI 1 = (1 : Int32) from rfl)]; rfl
  · rw [if_neg (show ¬ nI 2 = (0 : Int32) by decide), if_neg (show ¬ nI 2 = (1 : Int32) by decide), if_pos (show nI 2 = (2 : Int32) from rfl), F_Entries_time, r_cell, Option.bind_some, r_get46 (by omega), Option.bind_some, Option.bind_some, g1]
    unfold aTm
    rw [if_neg ho1]
    rfl
  · rw [if_neg (show ¬ nI 3 = (0 : Int32) by decide), if_neg (show ¬ nI 3 = (1 : Int32) by decide), if_neg (show ¬ nI 3 = (2 : Int32) by decide), if_pos (show nI 3 = (3 : Int32) from rfl), r_cell, Option.bind_some, r_get53 (by omega), Option.bind_some, g2, if_neg ho1]
    rfl
  · rw [if_neg (show ¬ nI 4 = (0 : Int32) by decide), if_neg (show ¬ nI 4 = (1 : Int32) by decide), if_neg (show ¬ nI 4 = (2 : Int32) by decide), if_neg (show ¬ nI 4 = (3 : Int32) by decide)]
    have cs : aCs A n h e = true := by
      unfold aCs
      rw [if_neg ho1]
    rw [cs]
    rfl
end JE

/-! out of 57.load of whole -/
/-! load -/
def nil0 (i : Nat) : Int32 := if i < 5 then (zfv 0).getD i 0 else if i = 5 then 48 else if i = 9 then 1 else 0
/-- a village before anything is read; its counters as in C -/
def aNil (C : zAb) : zAb := fun f i j => if f = 13 then C f i j else if f = 0 ∧ j = 0 then nil0 i else 0
theorem aNil_0 {C : zAb} {k : Nat} : aNil C 0 k 0 = nil0 k := rfl
theorem aNil_f {C : zAb} {f i j : Nat} (h : 1 ≤ f) (h2 : f ≤ 12) : aNil C f i j = 0 := by
  unfold aNil
  rw [if_neg (by omega), if_neg (by omega)]
theorem aNil_13 {C : zAb} {i j : Nat} : aNil C 13 i j = C 13 i j := rfl
theorem aInv_nil {C : zAb} : aInv (aNil C) 0 0 0 :=
  ⟨⟨rfl, rfl, by decide, by decide⟩, ⟨⟨48, by decide, by decide, rfl⟩, rfl, by decide, ⟨1, by decide, rfl⟩, ⟨5, by decide, rfl⟩, ⟨1, by decide, rfl⟩, ⟨40, by decide, rfl⟩, ⟨10, by decide, rfl⟩, ⟨11, by decide, rfl⟩⟩, fun h hh => absurd hh (Nat.not_lt_zero h), fun w hw => absurd hw (Nat.not_lt_zero w), fun h w hh => absurd hh (Nat.not_lt_zero h)⟩
section JL
variable {σ : zSt} {K : Nat}
theorem r_fill {v o L : Nat} (hL : zrl (o + 1) = L) (h : L < 90000) (x : Int32) : zOk (F_Row_fill v o x σ) (fun s => (∀ i, i < L → s.1 v (o + 1) i = x) ∧ (∀ g o' i, ¬ (g = v ∧ o' = o + 1) → s.1 g o' i = σ.1 g o' i) ∧ s.2 = σ.2) := by
  rw [F_Row_fill, F_Arrays_fill, hL]
  have run : zOk (L_Arrays_fill v (o + 1) zK 0 x (0 : Int32) (Int32.ofNat L) σ) (fun s => (∀ i, i < L → s.1 v (o + 1) i = x) ∧ (∀ g o' i, ¬ (g = v ∧ o' = o + 1) → s.1 g o' i = σ.1 g o' i) ∧ s.2 = σ.2) := by
    refine z_loopC (fun j k st => L_Arrays_fill v (o + 1) j 0 x (nI k) (nI L) st) L 0 (fun k st => (∀ i, i < k → st.1 v (o + 1) i = x) ∧ (∀ g o' i, ¬ (g = v ∧ o' = o + 1) → st.1 g o' i = σ.1 g o' i) ∧ st.2 = σ.2) _ (fun k st hk hJ j kk => ?_) (fun st hJ j hj => ?_) zK σ (zK_lt (by omega)) ⟨fun i hi => absurd hi (Nat.not_lt_zero i), fun _ _ _ _ => rfl, rfl⟩
    · try dsimp only
      obtain ⟨j1, j2, j3⟩ := hJ
      rw [e_Arrays_fill_0, if_neg (nI_ge hk (by omega)), hL, if_pos (inb_n hk (by omega)), nI_clamp (by omega), nI_1]
      refine kk _ ⟨fun i hi => ?_, fun g o' i q => by rw [zst_at, if_neg (by omega)]; exact j2 g o' i q, j3⟩
      rw [zst_at]
      by_cases z : i = k
      · subst z; rw [if_pos ⟨rfl, rfl, rfl⟩]
      · rw [if_neg (by omega)]; exact j1 i (by omega)
    · try dsimp only
      rw [e_Arrays_fill_0, if_pos (nI_le0 (by omega))]
      exact ⟨_, rfl, hJ⟩
  exact zOk.bind run (fun s h => ⟨_, rfl, h⟩)
theorem x_clear {v : Nat} (C : zAb) : zOk (F_Village_clear v σ) (fun s => zfV v σ s ∧ zC s v (aNil C) 0 0 (0 - C 13 23 0) 0) := by
  rw [F_Village_clear]
  generalize hs0 : zst (zst (zst (zst σ v 0 0 (48 : Int32)) v 0 1 (0 : Int32)) v 0 2 (1 : Int32)) v 0 3 (0 : Int32) = s0
  have f0 : zfV v σ s0 := by
    rw [← hs0]
    exact (((zfV.st v _ _ _ _).tr (zfV.st v _ _ _ _)).tr (zfV.st v _ _ _ _)).tr (zfV.st v _ _ _ _)
  have e0 : s0.1 v 0 0 = 48 ∧ s0.1 v 0 1 = 0 ∧ s0.1 v 0 2 = 1 ∧ s0.1 v 0 3 = 0 := by rw [← hs0]; simp [zst_at]
  refine z_loopC (fun j k st => L_Village_clear v j 0 (nI k) st) 5 0 (fun k st => (∀ i, i < k → st.1 v 2 i = (zfv 0).getD i 0) ∧ (∀ o i, o ≠ 2 → st.1 v o i = s0.1 v o i) ∧ zfV v σ st) _ (fun k st hk hJ j kk => ?_) (fun st hJ j hj => ?_) zK s0 (zK_lt (by omega)) ⟨fun i hi => absurd hi (Nat.not_lt_zero i), fun _ _ _ => rfl, f0⟩
  · try dsimp only
    obtain ⟨j1, j2, j3⟩ := hJ
    rw [e_Village_clear_0, if_neg (show ¬ (5 : Int32) ≤ nI k from nI_ge (b := 5) hk (by decide))]
    refine zOk.eq (x_elem 0 hk st) (zOk.eq (r_put1 hk _) ?_)
    rw [nI_1]
    refine kk _ ⟨fun i hi => ?_, fun o i q => by rw [zst_at, if_neg (by omega)]; exact j2 o i q, j3.tr (zfV.st v st 2 k _)⟩
    rw [zst_at]
    by_cases z : i = k
    · subst z; rw [if_pos ⟨rfl, rfl, rfl⟩]
    · rw [if_neg (by omega)]; exact j1 i (by omega)
  · try dsimp only
    obtain ⟨j1, j2, j3⟩ := hJ
    rw [e_Village_clear_0, if_pos (show (5 : Int32) ≤ nI 5 by decide), F_Homes_clear, Option.bind_some, F_Tidings_clear, Option.bind_some]
    generalize hs1 : zst (zst st v 3 0 (0 : Int32)) v 24 0 (0 : Int32) = s1
    have f1 : zfV v σ s1 := by rw [← hs1]; exact (j3.tr (zfV.st v st 3 0 0)).tr (zfV.st v _ 24 0 0)
    have o1 : ∀ o i, o ≠ 3 → o ≠ 24 → s1.1 v o i = st.1 v o i := fun o i a b => by rw [← hs1, zst_at, if_neg (by omega), zst_at, if_neg (by omega)]
    have e3 : s1.1 v 3 0 = 0 ∧ s1.1 v 24 0 = 0 := by rw [← hs1]; simp [zst_at]
    rw [F_Entries_clear]
    refine zOk.bind (zOk.bind (r_fill (v := v) (o := 44) (L := 12) rfl (by decide) 0) (fun s2 h2 => ⟨_, rfl, h2⟩)) (fun s2 ⟨a1, a2, a3⟩ => ?_)
    rw [F_Entries_clear]
    refine zOk.bind (zOk.bind (r_fill (v := v) (o := 49) (L := 12) rfl (by decide) 0) (fun s3 h3 => ⟨_, rfl, h3⟩)) (fun s3 ⟨b1, b2, b3⟩ => ?_)
    rw [F_Journal_clear, Option.bind_some]
    have oo : ∀ o i, o ≠ 2 → o ≠ 3 → o ≠ 24 → o ≠ 45 → o ≠ 50 → s3.1 v o i = s0.1 v o i := fun o i q1 q2 q3 q4 q5 => by
      rw [b2 v o i (by omega), a2 v o i (by omega), o1 o i q2 q3, j2 o i q1]
    refine ⟨_, rfl, (f1.tr (⟨fun g o i q => by rw [b2 g o i (by omega), a2 g o i (by omega)], b3.trans a3⟩ : zfV v s1 s3)).tr (zfV.st v s3 59 0 0), ⟨⟨?_, ?_, ?_, ?_, ?_, ?_, fun k hk => ?_⟩, fun h hh => absurd hh (Nat.not_lt_zero h), fun w hw => absurd hw (Nat.not_lt_zero w), fun h hh => ⟨?_, ?_⟩, fun h w hh => absurd hh (Nat.not_lt_zero h), fun h w _ hw => absurd hw (Nat.not_lt_zero w)⟩, ⟨?_, fun s i k e hs hi his => ?_⟩, aInv_nil, fun h w hh => absurd hh (Nat.not_lt_zero h), 0, Nat.le_refl 0, rfl, rfl⟩
    · rw [zst_at, if_neg (by omega), oo 0 0 (by decide) (by decide) (by decide) (by decide) (by decide), e0.1]; rfl
    · rw [zst_at, if_neg (by omega), oo 0 1 (by decide) (by decide) (by decide) (by decide) (by decide), e0.2.1]; rfl
    · rw [zst_at, if_neg (by omega), oo 0 2 (by decide) (by decide) (by decide) (by decide) (by decide), e0.2.2.1]; rfl
    · rw [zst_at, if_neg (by omega), oo 0 3 (by decide) (by decide) (by decide) (by decide) (by decide), e0.2.2.2, aNil_13, Int32.add_comm, Int32.sub_add_cancel]
    · rw [zst_at, if_neg (by omega), b2 v 3 0 (by omega), a2 v 3 0 (by omega), e3.1]; rfl
    · rw [zst_at, if_neg (by omega), b2 v 24 0 (by omega), a2 v 24 0 (by omega), e3.2]; rfl
    · rw [zst_at, if_neg (by omega), b2 v 2 k (by omega), a2 v 2 k (by omega), o1 2 k (by decide) (by decide), j1 k hk, aNil_0]
      unfold nil0
      rw [if_pos hk]
    · rw [zst_at, if_neg (by omega), b2 v 45 h (by omega), a1 h hh]; rfl
    · rw [zst_at, if_neg (by omega), b1 h hh]; rfl
    · rw [zst_at, if_pos ⟨rfl, rfl, rfl⟩]; rfl
    · have e : nI 0 = nI s := e
      have := (nI_eq (by omega) (by omega)).mp e
      omega
end JL

