/-! appendText, truncateText -/
theorem r_get73 {σ : zSt} {i : Nat} (hi : i < 700) : F_Row_get 4 73 (nI i) σ = some (σ.1 4 74 i) := r_get (o := 73) rfl hi (by decide)
theorem r_put73 {σ : zSt} {i : Nat} (hi : i < 700) (x : Int32) : F_Row_put 4 73 (nI i) x σ = some (zst σ 4 74 i x) := r_put (o := 73) x rfl hi (by decide)
theorem x_app {σ : zSt} {l : Nat} (hl : l < 700) (e : σ.1 4 72 1 = nI l) (a : Int32) : F_Text_append a σ = some (zst (zst σ 4 74 l (a &&& 255)) 4 72 1 (nI (l + 1))) := by
  rw [F_Text_append, e, r_put73 hl, Option.bind_some, zst_at, if_neg (by omega), e, nI_1]
theorem by_eq (a : Int32) (k : Nat) (hk : k = 0 ∨ k = 8 ∨ k = 16 ∨ k = 24) : (a.toUInt32 >>> ((nI k).toUInt32 &&& Int32.toUInt32 31)).toInt32 &&& 255 = (a >>> (nI k &&& 31)) &&& 255 := by
  apply b_ext
  intro i hi
  rw [b_and, b_and, b_ushr k (by omega), b_sshr k (by omega) a hi, b_255]
  by_cases q : i < 8
  · rw [if_pos (by omega)]
  · simp [q]
theorem by_0 (a : Int32) : a &&& 255 = (a >>> (nI 0 &&& 31)) &&& 255 := by
  apply b_ext
  intro i hi
  rw [b_and, b_and, b_sshr 0 (by omega) a hi, if_pos (by omega), Nat.zero_add]
theorem by_n (x : Int32) : ∃ b, b < 256 ∧ x &&& 255 = nI b := pk_andE x 8 (by decide)
def apS (B : Nat → Int32) (l : Nat) (s : zSt) : Nat → zSt
  | 0 => s
  | k + 1 => zst (zst (apS B l s k) 4 89 (l + k) (B k)) 4 80 10 (nI (l + k + 1))
theorem apS_10 {B : Nat → Int32} {l : Nat} {s : zSt} (e : s.1 4 80 10 = nI l) : ∀ {k : Nat}, (apS B l s k).1 4 80 10 = nI (l + k)
  | 0 => e
  | k + 1 => by rw [apS, zst_at, if_pos ⟨rfl, rfl, rfl⟩, Nat.add_assoc]
theorem apS_out {B : Nat → Int32} {l : Nat} {s : zSt} {g o i : Nat} (h : ¬ (g = 4 ∧ ((o = 89 ∧ l ≤ i) ∨ (o = 80 ∧ i = 10)))) : ∀ {k : Nat}, (apS B l s k).1 g o i = s.1 g o i
  | 0 => rfl
  | k + 1 => by rw [apS, zst_at, if_neg (by omega), zst_at, if_neg (by omega), apS_out h]
theorem apS_in {B : Nat → Int32} {l : Nat} {s : zSt} : ∀ {k q : Nat}, q < k → (apS B l s k).1 4 89 (l + q) = B q
  | 0, q, h => absurd h (Nat.not_lt_zero q)
  | k + 1, q, h => by
    rw [apS, zst_at, if_neg (by omega), zst_at]
    by_cases z : q = k
    · subst z; rw [if_pos ⟨rfl, rfl, rfl⟩]
    · rw [if_neg (by omega), apS_in (by omega)]
theorem apS_2 {B : Nat → Int32} {l : Nat} {s : zSt} : ∀ {k : Nat}, (apS B l s k).2 = s.2
  | 0 => rfl
  | k + 1 => apS_2 (k := k)
section JT
variable {σ : zSt} {K : Nat}
theorem zJp_txt {σ σ' : zSt} {K l : Nat} (h : zJp σ K) (e : ∀ g o i, (g = 2 ∨ g = 3 ∨ (g = 4 ∧ (o = 70 ∨ o = 71 ∨ o = 84 ∨ o = 85 ∨ o = 86 ∨ o = 87 ∨ o = 88 ∨ (o = 80 ∧ (i = 16 ∨ i = 17))))) → σ'.1 g o i = σ.1 g o i) (ht : zTb σ' l) : zJp σ' K := by
  obtain ⟨h1, ⟨-, h3, h4⟩, h5⟩ := h
  refine ⟨h1.fr (Nat.le_refl K) (e 4 70 4 (by omega)) (fun i => e 4 85 i (by omega)) (fun i => e 4 84 i (by omega)) (fun g o i q => e g o i (by omega)), ⟨⟨l, ht⟩, ?_, ?_⟩, fun i hi => ?_⟩
  · rw [e 4 80 16 (by omega), e 4 71 1 (by omega)]; exact h3
  · rw [e 4 80 17 (by omega), e 4 71 2 (by omega)]; exact h4
  · rw [e 4 86 i (by omega), e 4 87 i (by omega), e 4 88 i (by omega)]; exact h5 i hi
theorem j_truncate (J : zJ σ K) (a : Int32) : zRI K (F_Law_truncateText a σ) (F_Model_truncateText a) := by
  obtain ⟨A, n, m, c, T, hT, hC, hM, hp⟩ := id J
  obtain ⟨l, t1, t2, t3, t4⟩ := hp.2.1.1
  cases q : zBt a 0 (nI l) with
  | false =>
    refine zRI.no (k := 1) J hM ?_ (by decide) (fun s hs es => ?_)
    · simp only [F_Law_truncateText, F_Waves_truncateText, t2, x_in0 q, Option.bind_some, bd2, F_Model_fail, z10, z20, z00, if_true, if_false, eq_self, zs_AI, zs_SA]
    · have e : (zst s 4 80 8 0).1 4 80 10 = nI l := by rw [zst_at, if_neg (by omega), es]; exact t3
      simp only [F_Model_truncateText, e, m_in0 q, Option.bind_some, bd2, F_Model_fail, z10, z20, z00, if_true, if_false, eq_self, zs_AI, zs_SA]
  | true =>
    have q' := q
    obtain ⟨k, -, hk, rfl⟩ := z_rng (lo := 0) (hi := l) q (by omega) (by decide)
    refine ⟨(0, zsl (zst σ 4 72 1 (nI k)) 95 (nI k).toInt64), ?_, ?_⟩
    · simp only [F_Law_truncateText, F_Waves_truncateText, t2, x_in1 q', Option.bind_some, bd2, F_Model_fail, z10, z20, z00, if_true, if_false, eq_self, zs_AI, zs_SA]
    · generalize hs : zsl (zst σ 4 72 1 (nI k)) 95 (nI k).toInt64 = s
      have es : s.1 = (zst σ 4 72 1 (nI k)).1 := by rw [← hs]; rfl
      have e : (zst s 4 80 8 0).1 4 80 10 = nI l := by rw [zst_at, if_neg (by omega), es, zst_at, if_neg (by omega)]; exact t3
      show zOk (F_Model_truncateText (nI k) s) _
      rw [F_Model_truncateText, e, m_in1 q', Option.bind_some, if_neg (by decide)]
      refine ⟨_, rfl, ?_, ?_, fun _ => ?_⟩
      · generalize hs4 : zst (zst s 4 80 8 0) 4 80 10 (nI k) = s4
        have o4 : ∀ g o i, ¬ (g = 4 ∧ ((o = 72 ∧ i = 1) ∨ (o = 80 ∧ (i = 8 ∨ i = 10)))) → s4.1 g o i = σ.1 g o i := fun g o i z => by
          rw [← hs4, zst_at, if_neg (by omega), zst_at, if_neg (by omega), es, zst_at, if_neg (by omega)]
        refine ⟨A, n, m, c, T, hT, zC_fr hC (fun o i => o4 0 o i (by omega)), hM.same (fun i => o4 4 81 i (by omega)) (fun i _ => o4 4 80 i (by omega)), zJp_txt (l := k) hp (fun g o i z => o4 g o i (by omega)) ⟨by omega, ?_, ?_, fun i hi => ?_⟩⟩
        · rw [← hs4, zst_at, if_neg (by omega), zst_at, if_neg (by omega), es, zst_at, if_pos ⟨rfl, rfl, rfl⟩]
        · rw [← hs4, zst_at, if_pos ⟨rfl, rfl, rfl⟩]
        · rw [o4 4 89 i (by omega), o4 4 74 i (by omega)]
          exact t4 i (by omega)
      · show (zst (zst s 4 80 8 0) 4 80 10 (nI k)).1 4 80 8 = 0
        rw [zst_at, if_neg (by omega), zst_8]
      · show s.2.1 95 = _
        rw [← hs]
        show (zsl (zst σ 4 72 1 (nI k)) 95 (nI k).toInt64).2.1 95 = ((zst (zst (zsl (zst σ 4 72 1 (nI k)) 95 (nI k).toInt64) 4 80 8 0) 4 80 10 (nI k)).1 4 80 10).toInt64
        rw [zsl_95, zst_at, if_pos ⟨rfl, rfl, rfl⟩]
theorem j_append (J : zJ σ K) (a : Int32) : zRI K (F_Law_appendText a σ) (F_Model_appendText a) := by
  obtain ⟨A, n, m, c, T, hT, hC, hM, hp⟩ := id J
  obtain ⟨l, t1, t2, t3, t4⟩ := hp.2.1.1
  have e4 : nI l + 4 = nI (l + 4) := nI_add l 4
  by_cases q : l + 4 ≤ 700
  · have qx : nI (l + 4) ≤ (700 : Int32) := nI_le (b := 700) q (by decide)
    generalize hb : (fun k => (a >>> (nI (24 - 8 * k) &&& 31)) &&& 255) = B
    have hB : ∀ k, B k = (a >>> (nI (24 - 8 * k) &&& 31)) &&& 255 := fun k => by rw [← hb]
    generalize hx : zst (zst (zst (zst (zst (zst (zst (zst σ 4 74 l (B 0)) 4 72 1 (nI (l + 1))) 4 74 (l + 1) (B 1)) 4 72 1 (nI (l + 2))) 4 74 (l + 2) (B 2)) 4 72 1 (nI (l + 3))) 4 74 (l + 3) (B 3)) 4 72 1 (nI (l + 4)) = σx
    have X : F_Waves_appendText a σ = some (.inl (nI (l + 4), σx)) := by
      rw [F_Waves_appendText, t2, e4, if_pos qx, x_app (by omega) t2, Option.bind_some, x_app (l := l + 1) (by omega) (by rw [zst_at, if_pos ⟨rfl, rfl, rfl⟩]), Option.bind_some, x_app (l := l + 2) (by omega) (by rw [zst_at, if_pos ⟨rfl, rfl, rfl⟩]), Option.bind_some, x_app (l := l + 3) (by omega) (by rw [zst_at, if_pos ⟨rfl, rfl, rfl⟩]), Option.bind_some]
      have b0 : (a.toUInt32 >>> ((24 : Int32).toUInt32 &&& Int32.toUInt32 31)).toInt32 &&& 255 = B 0 := (by_eq a 24 (by decide)).trans (hB 0).symm
      have b1 : (a.toUInt32 >>> ((16 : Int32).toUInt32 &&& Int32.toUInt32 31)).toInt32 &&& 255 = B 1 := (by_eq a 16 (by decide)).trans (hB 1).symm
      have b2 : (a.toUInt32 >>> ((8 : Int32).toUInt32 &&& Int32.toUInt32 31)).toInt32 &&& 255 = B 2 := (by_eq a 8 (by decide)).trans (hB 2).symm
      have b3 : a &&& 255 = B 3 := (by_0 a).trans (hB 3).symm
      rw [b0, b1, b2, b3, hx]
      congr 3
      rw [← hx, zst_at, if_pos ⟨rfl, rfl, rfl⟩]
    refine ⟨(0, zsl σx 95 (nI (l + 4)).toInt64), by rw [F_Law_appendText, X]; rfl, ?_⟩
    generalize hs : zsl σx 95 (nI (l + 4)).toInt64 = s
    have es : s.1 = σx.1 := by rw [← hs]; rfl
    have ox : ∀ g o i, ¬ (g = 4 ∧ ((o = 72 ∧ i = 1) ∨ (o = 74 ∧ l ≤ i))) → s.1 g o i = σ.1 g o i := fun g o i z => by
      rw [es, ← hx, zst_at, if_neg (by omega), zst_at, if_neg (by omega), zst_at, if_neg (by omega), zst_at, if_neg (by omega), zst_at, if_neg (by omega), zst_at, if_neg (by omega), zst_at, if_neg (by omega), zst_at, if_neg (by omega)]
    have e10 : (zst s 4 80 8 0).1 4 80 10 = nI l := by rw [zst_at, if_neg (by omega), ox 4 80 10 (by omega)]; exact t3
    show zOk (F_Model_appendText a s) _
    rw [F_Model_appendText, e10, e4, if_pos qx]
    have one : ∀ (k j : Nat), k < 4 → L_Model_appendText (j + 1) 0 a (nI (24 - 8 * k)) (apS B l (zst s 4 80 8 0) k) = L_Model_appendText j 0 a (nI (24 - 8 * k) + (-8)) (apS B l (zst s 4 80 8 0) (k + 1)) := fun k j hk => by
      have e := apS_10 (B := B) (k := k) e10
      rw [e_Model_appendText_0, if_neg (nI_pos (by omega)), e, if_pos (inb_n (by omega) (by decide)), nI_clamp (by omega), ← hB, zst_at, if_neg (by omega), e, nI_1]
      rfl
    have run : ∀ j, L_Model_appendText (j + 1 + 1 + 1 + 1 + 1) 0 a (nI (24 - 8 * 0)) (apS B l (zst s 4 80 8 0) 0) = some (nI (l + 4), apS B l (zst s 4 80 8 0) 4) := fun j => by
      rw [one 0 _ (by decide), show nI (24 - 8 * 0) + (-8) = nI (24 - 8 * 1) by decide, one 1 _ (by decide), show nI (24 - 8 * 1) + (-8) = nI (24 - 8 * 2) by decide, one 2 _ (by decide), show nI (24 - 8 * 2) + (-8) = nI (24 - 8 * 3) by decide, one 3 _ (by decide), e_Model_appendText_0, if_pos (show nI (24 - 8 * 3) + -8 < 0 by decide), apS_10 e10]
    refine ⟨_, run 99995, ?_⟩
    generalize hs4 : apS B l (zst s 4 80 8 0) 4 = s4
    have o4 : ∀ g o i, ¬ (g = 4 ∧ ((o = 89 ∧ l ≤ i) ∨ (o = 80 ∧ (i = 8 ∨ i = 10)))) → s4.1 g o i = s.1 g o i := fun g o i z => by
      rw [← hs4, apS_out (by omega), zst_at, if_neg (by omega)]
    have oo : ∀ g o i, ¬ (g = 4 ∧ ((o = 89 ∧ l ≤ i) ∨ (o = 80 ∧ (i = 8 ∨ i = 10)) ∨ (o = 72 ∧ i = 1) ∨ (o = 74 ∧ l ≤ i))) → s4.1 g o i = σ.1 g o i := fun g o i z => by
      rw [o4 g o i (by omega), ox g o i (by omega)]
    refine ⟨?_, ?_, fun _ => ?_⟩
    · refine ⟨A, n, m, c, T, hT, zC_fr hC (fun o i => oo 0 o i (by omega)), hM.same (fun i => oo 4 81 i (by omega)) (fun i _ => oo 4 80 i (by omega)), zJp_txt (l := l + 4) hp (fun g o i z => oo g o i (by omega)) ⟨q, ?_, ?_, fun i hi => ?_⟩⟩
      · show s4.1 4 72 1 = _
        rw [o4 4 72 1 (by omega), es, ← hx, zst_at, if_pos ⟨rfl, rfl, rfl⟩]
      · show s4.1 4 80 10 = _
        rw [← hs4]
        exact apS_10 e10
      · show s4.1 4 89 i = s4.1 4 74 i ∧ ∃ b, b < 256 ∧ s4.1 4 74 i = nI b
        by_cases z : i < l
        · rw [oo 4 89 i (by omega), oo 4 74 i (by omega)]
          exact t4 i z
        · have g : ∀ k, k < 4 → s4.1 4 89 (l + k) = B k ∧ s4.1 4 74 (l + k) = B k := fun k hk => by
            constructor
            · rw [← hs4]
              exact apS_in hk
            · rw [o4 4 74 (l + k) (by omega), es, ← hx]
              rcases (show k = 0 ∨ k = 1 ∨ k = 2 ∨ k = 3 by omega) with rfl | rfl | rfl | rfl
              · rw [zst_at, if_neg (by omega), zst_at, if_neg (by omega), zst_at, if_neg (by omega), zst_at, if_neg (by omega), zst_at, if_neg (by omega), zst_at, if_neg (by omega), zst_at, if_neg (by omega), zst_at, if_pos ⟨rfl, rfl, rfl⟩]
              · rw [zst_at, if_neg (by omega), zst_at, if_neg (by omega), zst_at, if_neg (by omega), zst_at, if_neg (by omega), zst_at, if_neg (by omega), zst_at, if_pos ⟨rfl, rfl, rfl⟩]
              · rw [zst_at, if_neg (by omega), zst_at, if_neg (by omega), zst_at, if_neg (by omega), zst_at, if_pos ⟨rfl, rfl, rfl⟩]
              · rw [zst_at, if_neg (by omega), zst_at, if_pos ⟨rfl, rfl, rfl⟩]
          obtain ⟨g1, g2⟩ := g (i - l) (by omega)
          rw [show l + (i - l) = i by omega] at g1 g2
          obtain ⟨b, hb1, hb2⟩ := by_n (a >>> (nI (24 - 8 * (i - l)) &&& 31))
          rw [g1, g2]
          exact ⟨rfl, b, hb1, by rw [hB, hb2]⟩
    · show s4.1 4 80 8 = 0
      rw [← hs4, apS_out (by omega), zst_8]
    · show s4.2.1 95 = (nI (l + 4)).toInt64
      rw [← hs4, apS_2, ← hs]
      exact zsl_95 _ _
  · have qx : ¬ nI (l + 4) ≤ (700 : Int32) := nI_ge (a := 700) (by omega) (by omega)
    refine zRI.no (k := 1) J hM ?_ (by decide) (fun s hs es => ?_)
    · rw [F_Law_appendText, F_Waves_appendText, t2, e4, if_neg qx]
      rfl
    · have e10 : (zst s 4 80 8 0).1 4 80 10 = nI l := by rw [zst_at, if_neg (by omega), es]; exact t3
      rw [F_Model_appendText, e10, e4, if_neg qx]
      rfl
end JT
