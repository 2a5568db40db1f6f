/-! small edits of both; calls: source, owes, seed, set, setQuiet, charge, addHouse, tell, correct, run, spoken, errorCode, errorPosition -/
theorem z10 : ((1 : Int32) = 0) = False := eq_false (by decide)
theorem z20 : ((2 : Int32) = 0) = False := eq_false (by decide)
theorem z00 : ((0 : Int32) = 0) = True := eq_true rfl
theorem zs_AI : ("java/lang/IllegalArgumentException" = "java/lang/IndexOutOfBoundsException") = False := eq_false (by decide)
theorem zs_SA : ("java/lang/IllegalStateException" = "java/lang/IllegalArgumentException") = False := eq_false (by decide)
theorem aup_f {A : zAb} {f i j f' i' j' : Nat} {v : Int32} (h : f' ≠ f) : aup A f i j v f' i' j' = A f' i' j' := if_neg (fun q => h q.1)
theorem aup_j {A : zAb} {f i j f' i' j' : Nat} {v : Int32} (h : j' ≠ j) : aup A f i j v f' i' j' = A f' i' j' := if_neg (fun q => h q.2.2)
theorem aup_i {A : zAb} {f i j f' i' j' : Nat} {v : Int32} (h : i' ≠ i) : aup A f i j v f' i' j' = A f' i' j' := if_neg (fun q => h q.2.1)
theorem aup_s {A : zAb} {f i j : Nat} {v : Int32} : aup A f i j v f i j = v := if_pos ⟨rfl, rfl, rfl⟩
section RE
variable {σ : zSt} {A : zAb} {n m T v : Nat} {c : Int32}
theorem R_h5 (hR : zVr σ v A n m c) (h : Nat) (x : Int32) : zVr (zst σ v 15 h x) v (aup A 1 h 5 x) n m c := by
  obtain ⟨r1, r2, r3, r4, r5, r6⟩ := hR
  refine ⟨r1.cg (fun o i q => by rw [zst_at, if_neg (by omega)]) (fun k _ => by simp [aup]) (by simp [aup]), ?_, r3.cg (fun o i q q2 => by rw [zst_at, if_neg (by omega)]) (fun f i j q => by rw [aup, if_neg (by omega)]), r4.cg (fun o i q => by rw [zst_at, if_neg (by omega)]) (fun f i j q => by rw [aup, if_neg (by omega)]), r5.cg (fun o i q => by rw [zst_at, if_neg (by omega)]) (fun f i j q _ => by rw [aup, if_neg (by omega)]), r6.cg (fun o i q => by rw [zst_at, if_neg (by omega)]) (fun i j => by simp [aup])⟩
  intro i hi
  obtain ⟨h0, h1, h2, h3, h4, h5, h6, h7, h8, h9⟩ := r2 i hi
  have y : ∀ i j, j ≠ 5 → aup A 1 h 5 x 1 i j = A 1 i j := fun i j q => by rw [aup, if_neg (by omega)]
  have x : ∀ o j, o ≠ 15 → (zst σ v 15 h x).1 v o j = σ.1 v o j := fun o j q => by rw [zst_at, if_neg (by omega)]
  refine ⟨by rw [x 5 _ (by decide), y _ 0 (by decide)]; exact h0, by rw [x 7 _ (by decide), y _ 1 (by decide)]; exact h1, by rw [x 9 _ (by decide), y _ 2 (by decide)]; exact h2, by rw [x 11 _ (by decide), y _ 3 (by decide)]; exact h3, by rw [x 13 _ (by decide), y _ 4 (by decide)]; exact h4, ?_, by rw [x 17 _ (by decide), y _ 6 (by decide)]; exact h6, by rw [x 19 _ (by decide), y _ 7 (by decide)]; exact h7, by rw [x 21 _ (by decide), y _ 8 (by decide)]; exact h8, by rw [x 23 _ (by decide), aNear_cg2 (fun i j q => y i j (by omega))]; exact h9⟩
  rw [zst_at]
  by_cases z : i = h
  · subst z; simp [aup]
  · rw [if_neg (by omega)]; simp [aup, z]; exact h5
theorem R_h6 (hR : zVr σ v A n m c) (h : Nat) (x : Int32) : zVr (zst σ v 17 h x) v (aup A 1 h 6 x) n m c := by
  obtain ⟨r1, r2, r3, r4, r5, r6⟩ := hR
  refine ⟨r1.cg (fun o i q => by rw [zst_at, if_neg (by omega)]) (fun k _ => by simp [aup]) (by simp [aup]), ?_, r3.cg (fun o i q q2 => by rw [zst_at, if_neg (by omega)]) (fun f i j q => by rw [aup, if_neg (by omega)]), r4.cg (fun o i q => by rw [zst_at, if_neg (by omega)]) (fun f i j q => by rw [aup, if_neg (by omega)]), r5.cg (fun o i q => by rw [zst_at, if_neg (by omega)]) (fun f i j q _ => by rw [aup, if_neg (by omega)]), r6.cg (fun o i q => by rw [zst_at, if_neg (by omega)]) (fun i j => by simp [aup])⟩
  intro i hi
  obtain ⟨h0, h1, h2, h3, h4, h5, h6, h7, h8, h9⟩ := r2 i hi
  have y : ∀ i j, j ≠ 6 → aup A 1 h 6 x 1 i j = A 1 i j := fun i j q => by rw [aup, if_neg (by omega)]
  have x : ∀ o j, o ≠ 17 → (zst σ v 17 h x).1 v o j = σ.1 v o j := fun o j q => by rw [zst_at, if_neg (by omega)]
  refine ⟨by rw [x 5 _ (by decide), y _ 0 (by decide)]; exact h0, by rw [x 7 _ (by decide), y _ 1 (by decide)]; exact h1, by rw [x 9 _ (by decide), y _ 2 (by decide)]; exact h2, by rw [x 11 _ (by decide), y _ 3 (by decide)]; exact h3, by rw [x 13 _ (by decide), y _ 4 (by decide)]; exact h4, by rw [x 15 _ (by decide), y _ 5 (by decide)]; exact h5, ?_, by rw [x 19 _ (by decide), y _ 7 (by decide)]; exact h7, by rw [x 21 _ (by decide), y _ 8 (by decide)]; exact h8, by rw [x 23 _ (by decide), aNear_cg2 (fun i j q => y i j (by omega))]; exact h9⟩
  rw [zst_at]
  by_cases z : i = h
  · subst z; simp [aup]
  · rw [if_neg (by omega)]; simp [aup, z]; exact h6
theorem R_lot (hR : zVr σ v A n m c) (x : Int32) : zVr (zst σ v 0 2 x) v (aup A 0 9 0 x) n m c := by
  obtain ⟨r1, r2, r3, r4, r5, r6⟩ := hR
  refine ⟨?_, r2.cg (fun o i _ _ => by rw [zst_at, if_neg (by omega)]) (fun i j => by simp [aup]), r3.cg (fun o i _ _ => by rw [zst_at, if_neg (by omega)]) (fun f i j q => by rw [aup, if_neg (by omega)]), r4.cg (fun o i _ => by rw [zst_at, if_neg (by omega)]) (fun f i j q => by rw [aup, if_neg (by omega)]), r5.cg (fun o i _ => by rw [zst_at, if_neg (by omega)]) (fun f i j q _ => by rw [aup, if_neg (by omega)]), r6.cg (fun o i _ => by rw [zst_at, if_neg (by omega)]) (fun i j => by simp [aup])⟩
  obtain ⟨h1, h2, h3, h4, h5, h6, h7⟩ := r1
  refine ⟨?_, ?_, ?_, ?_, ?_, ?_, fun k hk => ?_⟩
  · rw [zst_at, if_neg (by omega), h1]; simp [aup]
  · rw [zst_at, if_neg (by omega), h2]; simp [aup]
  · rw [zst_at, if_pos ⟨rfl, rfl, rfl⟩]; simp [aup]
  · rw [zst_at, if_neg (by omega), h4]; simp [aup]
  · rw [zst_at, if_neg (by omega), h5]
  · rw [zst_at, if_neg (by omega), h6]
  · rw [zst_at, if_neg (by omega), h7 k hk, aup, if_neg (by omega)]
theorem R_dayl (hR : zVr σ v A n m c) (x : Int32) : zVr (zst σ v 0 0 x) v (aup A 0 5 0 x) n m c := by
  obtain ⟨r1, r2, r3, r4, r5, r6⟩ := hR
  refine ⟨?_, r2.cg (fun o i _ _ => by rw [zst_at, if_neg (by omega)]) (fun i j => by simp [aup]), r3.cg (fun o i _ _ => by rw [zst_at, if_neg (by omega)]) (fun f i j q => by rw [aup, if_neg (by omega)]), r4.cg (fun o i _ => by rw [zst_at, if_neg (by omega)]) (fun f i j q => by rw [aup, if_neg (by omega)]), r5.cg (fun o i _ => by rw [zst_at, if_neg (by omega)]) (fun f i j q _ => by rw [aup, if_neg (by omega)]), r6.cg (fun o i _ => by rw [zst_at, if_neg (by omega)]) (fun i j => by simp [aup])⟩
  obtain ⟨h1, h2, h3, h4, h5, h6, h7⟩ := r1
  refine ⟨?_, ?_, ?_, ?_, ?_, ?_, fun k hk => ?_⟩
  · rw [zst_at, if_pos ⟨rfl, rfl, rfl⟩]; simp [aup]
  · rw [zst_at, if_neg (by omega), h2]; simp [aup]
  · rw [zst_at, if_neg (by omega), h3]; simp [aup]
  · rw [zst_at, if_neg (by omega), h4]; simp [aup]
  · rw [zst_at, if_neg (by omega), h5]
  · rw [zst_at, if_neg (by omega), h6]
  · rw [zst_at, if_neg (by omega), h7 k hk, aup, if_neg (by omega)]
theorem R_set (hR : zVr σ v A n m c) {k : Nat} (hk : k < 5) (x : Int32) : zVr (zst σ v 2 k x) v (aup A 0 k 0 x) n m c := by
  obtain ⟨r1, r2, r3, r4, r5, r6⟩ := hR
  refine ⟨?_, r2.cg (fun o i _ _ => by rw [zst_at, if_neg (by omega)]) (fun i j => by simp [aup]), r3.cg (fun o i _ _ => by rw [zst_at, if_neg (by omega)]) (fun f i j q => by rw [aup, if_neg (by omega)]), r4.cg (fun o i _ => by rw [zst_at, if_neg (by omega)]) (fun f i j q => by rw [aup, if_neg (by omega)]), r5.cg (fun o i _ => by rw [zst_at, if_neg (by omega)]) (fun f i j q _ => by rw [aup, if_neg (by omega)]), r6.cg (fun o i _ => by rw [zst_at, if_neg (by omega)]) (fun i j => by simp [aup])⟩
  obtain ⟨h1, h2, h3, h4, h5, h6, h7⟩ := r1
  refine ⟨?_, ?_, ?_, ?_, ?_, ?_, fun i hi => ?_⟩
  · rw [zst_at, if_neg (by omega), h1, aup_i (by omega)]
  · rw [zst_at, if_neg (by omega), h2, aup_i (by omega)]
  · rw [zst_at, if_neg (by omega), h3, aup_i (by omega)]
  · rw [zst_at, if_neg (by omega), h4, aup_f (by omega)]
  · rw [zst_at, if_neg (by omega), h5]
  · rw [zst_at, if_neg (by omega), h6]
  · rw [zst_at]
    by_cases z : i = k
    · subst z; rw [if_pos ⟨rfl, rfl, rfl⟩, aup_s]
    · rw [if_neg (by omega), h7 i hi, aup_i z]
theorem aInv_bat (hI : aInv A n m T) (h : Nat) {x : Nat} (hx : x ≤ 999) : aInv (aup A 1 h 3 (nI x)) n m T := by
  obtain ⟨i1, i2, i3, i4, i5⟩ := hI
  refine ⟨zSz_cg (fun k _ => aup_f (by decide)) i1, aSc_cg (fun k _ => aup_f (by decide)) i2, fun y hy => ?_, fun u hu q y hy => by rw [aup_f (by decide)]; exact i4 u hu (by rw [← q, aup_f (by decide)]) y hy, fun y u hy hu => aPf_cg (fun f a b => aup_f (by omega)) (i5 y u hy hu)⟩
  by_cases z : y = h
  · subst z
    obtain ⟨g0, g1, g2, g3, g4⟩ := i3 y hy
    unfold aHf
    rw [aup_j (by decide), aup_j (by decide), aup_j (by decide), aup_s, aup_j (by decide)]
    exact ⟨g0, g1, g2, ⟨x, hx, rfl⟩, g4⟩
  · exact aHf_cg (fun k _ => aup_i z) (i3 y hy)
theorem aInv_quiet (hI : aInv A n m T) (h : Nat) (x y : Int32) : aInv (aup (aup A 1 h 5 x) 1 h 6 y) n m T :=
  aInv_cg hI (fun k _ => by rw [aup_f (by decide), aup_f (by decide)]) (fun i k _ hk => by rw [aup_j (by omega), aup_j (by omega)]) (fun w _ => by rw [aup_f (by decide), aup_f (by decide)]) (fun f i j a _ => by rw [aup_f (by omega), aup_f (by omega)])
/-- a setting's least and greatest -/
theorem aInv_set (hI : aInv A n m T) {k : Nat} (hk : k < 5) {x : Nat} (hx : nI x ≤ (zfv 2).getD k 0) (h31 : x < 2 ^ 31) : aInv (aup A 0 k 0 (nI x)) n m T := by
  obtain ⟨i1, i2, i3, i4, i5⟩ := hI
  refine ⟨⟨by rw [aup_i (by omega)]; exact i1.1, by rw [aup_i (by omega)]; exact i1.2.1, i1.2.2⟩, ?_, fun y hy => aHf_cg (fun k _ => aup_f (by decide)) (i3 y hy), fun u hu q y hy => by rw [aup_f (by decide)]; exact i4 u hu (by rw [← q, aup_f (by decide)]) y hy, fun y u hy hu => aPf_cg (fun f a b => aup_f (by omega)) (i5 y u hy hu)⟩
  obtain ⟨g1, g2, g3, g4, g5, g6, g7, g8, g9⟩ := i2
  unfold aSc
  rw [aup_i (show 5 ≠ k by omega), aup_i (show 8 ≠ k by omega), aup_i (show 9 ≠ k by omega)]
  refine ⟨g1, g2, g3, g4, ?_⟩
  have lit : ∀ b : Nat, b < 2 ^ 31 → (zfv 2).getD k 0 = nI b → x ≤ b := fun b hb e => by
    rw [e] at hx
    exact (nI_leI h31 hb).mp hx
  rcases (show k = 0 ∨ k = 1 ∨ k = 2 ∨ k = 3 ∨ k = 4 by omega) with rfl | rfl | rfl | rfl | rfl
  · rw [aup_s, aup_i (by decide), aup_i (by decide), aup_i (by decide), aup_i (by decide)]
    exact ⟨⟨x, lit 50 (by decide) rfl, rfl⟩, g6, g7, g8, g9⟩
  · rw [aup_s, aup_i (by decide), aup_i (by decide), aup_i (by decide), aup_i (by decide)]
    exact ⟨g5, ⟨x, lit 20 (by decide) rfl, rfl⟩, g7, g8, g9⟩
  · rw [aup_s, aup_i (by decide), aup_i (by decide), aup_i (by decide), aup_i (by decide)]
    exact ⟨g5, g6, ⟨x, lit 200 (by decide) rfl, rfl⟩, g8, g9⟩
  · rw [aup_s, aup_i (by decide), aup_i (by decide), aup_i (by decide), aup_i (by decide)]
    exact ⟨g5, g6, g7, ⟨x, lit 99 (by decide) rfl, rfl⟩, g9⟩
  · rw [aup_s, aup_i (by decide), aup_i (by decide), aup_i (by decide), aup_i (by decide)]
    exact ⟨g5, g6, g7, g8, ⟨x, lit 11 (by decide) rfl, rfl⟩⟩
theorem aInv_day (hI : aInv A n m T) {x : Nat} (h1 : 24 ≤ x) (h2 : x ≤ 240) : aInv (aup A 0 5 0 (nI x)) n m T := by
  obtain ⟨i1, i2, i3, i4, i5⟩ := hI
  refine ⟨⟨by rw [aup_i (by omega)]; exact i1.1, by rw [aup_i (by omega)]; exact i1.2.1, i1.2.2⟩, ?_, fun y hy => aHf_cg (fun k _ => aup_f (by decide)) (i3 y hy), fun u hu q y hy => by rw [aup_f (by decide)]; exact i4 u hu (by rw [← q, aup_f (by decide)]) y hy, fun y u hy hu => aPf_cg (fun f a b => aup_f (by omega)) (i5 y u hy hu)⟩
  obtain ⟨g1, g2, g3, g4, g5, g6, g7, g8, g9⟩ := i2
  unfold aSc
  rw [aup_s, aup_i (show 8 ≠ 5 by decide), aup_i (show 9 ≠ 5 by decide), aup_i (show 0 ≠ 5 by decide), aup_i (show 1 ≠ 5 by decide), aup_i (show 2 ≠ 5 by decide), aup_i (show 3 ≠ 5 by decide), aup_i (show 4 ≠ 5 by decide)]
  exact ⟨⟨x, h1, h2, rfl⟩, g2, g3, g4, g5, g6, g7, g8, g9⟩
/-- an edit that leaves the queues' due entries and the log -/
theorem zC_e {σ' : zSt} {A' : zAb} (hC : zC σ v A n m c T) (R : zVr σ' v A' n m c) (e : ∀ o i, o = 59 ∨ o = 61 → σ'.1 v o i = σ.1 v o i) (I : aInv A' n m T) (a : ∀ f i j, (f = 0 ∧ 10 ≤ i) ∨ 3 ≤ f → A' f i j = A f i j) : zC σ' v A' n m c T :=
  zC_k hC R e I (a _ _ _ (by omega)) (a _ _ _ (by omega)) (fun i j => a _ _ _ (by omega)) (fun f x y q => a _ _ _ (by omega))
theorem zC_bat (hC : zC σ v A n m c T) (h : Nat) {x : Nat} (hx : x ≤ 999) : zC (zst σ v 11 h (nI x)) v (aup A 1 h 3 (nI x)) n m c T :=
  zC_e hC (R_h3 hC.1 h _) (fun o i q => by rw [zst_at, if_neg (by omega)]) (aInv_bat hC.2.2.1 h hx) (fun f i j q => aup_f (by omega))
theorem zC_quiet (hC : zC σ v A n m c T) (h : Nat) (x y : Int32) : zC (zst (zst σ v 15 h x) v 17 h y) v (aup (aup A 1 h 5 x) 1 h 6 y) n m c T :=
  zC_e hC (R_h6 (R_h5 hC.1 h x) h y) (fun o i q => by rw [zst_at, if_neg (by omega), zst_at, if_neg (by omega)]) (aInv_quiet hC.2.2.1 h x y) (fun f i j q => by rw [aup_f (by omega), aup_f (by omega)])
theorem zC_lot (hC : zC σ v A n m c T) {x : Nat} (hx : x < 1000003) : zC (zst σ v 0 2 (nI x)) v (aup A 0 9 0 (nI x)) n m c T :=
  zC_e hC (R_lot hC.1 _) (fun o i q => by rw [zst_at, if_neg (by omega)]) (aInv_x hC.2.2.1 hx) (fun f i j q => by rcases q with q | q; exact aup_i (by omega); exact aup_f (by omega))
theorem zC_set (hC : zC σ v A n m c T) {k : Nat} (hk : k < 5) {x : Nat} (hx : nI x ≤ (zfv 2).getD k 0) (h31 : x < 2 ^ 31) : zC (zst σ v 2 k (nI x)) v (aup A 0 k 0 (nI x)) n m c T :=
  zC_e hC (R_set hC.1 hk _) (fun o i q => by rw [zst_at, if_neg (by omega)]) (aInv_set hC.2.2.1 hk hx h31) (fun f i j q => by rcases q with q | q; exact aup_i (by omega); exact aup_f (by omega))
theorem zC_day (hC : zC σ v A n m c T) {x : Nat} (h1 : 24 ≤ x) (h2 : x ≤ 240) : zC (zst σ v 0 0 (nI x)) v (aup A 0 5 0 (nI x)) n m c T :=
  zC_e hC (R_dayl hC.1 _) (fun o i q => by rw [zst_at, if_neg (by omega)]) (aInv_day hC.2.2.1 h1 h2) (fun f i j q => by rcases q with q | q; exact aup_i (by omega); exact aup_f (by omega))
end RE
