/-! the queues in their order -/
theorem q_enum (t : Nat → Int32) (m : Nat) : ∀ (N : Nat) (P : Nat → Bool), fb_ct P m = N → ∃ w : Nat → Nat, (∀ a, a < N → w a < m ∧ P (w a) = true) ∧ (∀ x, x < m → P x = true → ∃ a, a < N ∧ w a = x) ∧ (∀ a b, a < b → b < N → zLt t (w a) (w b))
  | 0, P, h => ⟨fun _ => 0, fun a ha => absurd ha (Nat.not_lt_zero a), fun x hx hp => by rw [fb_ct_zero.mp h x hx] at hp; exact absurd hp (by decide), fun a b _ hb => absurd hb (Nat.not_lt_zero b)⟩
  | N + 1, P, h => by
    cases e : zbest P t m with
    | none =>
      have := fb_ct_zero.mpr (zbest_none e)
      omega
    | some j =>
      obtain ⟨hj, pj, best⟩ := zbest_some e
      have hN : fb_ct (fun k => if k = j then false else P k) m = N := by
        have := fb_ct_upd P false hj
        rw [if_pos pj, if_neg (by decide)] at this
        omega
      obtain ⟨w, w1, w2, w3⟩ := q_enum t m N _ hN
      have wP : ∀ a, a < N → w a < m ∧ P (w a) = true ∧ w a ≠ j := fun a ha => by
        obtain ⟨a1, a2⟩ := w1 a ha
        by_cases q : w a = j
        · rw [if_pos q] at a2; exact absurd a2 (by decide)
        · rw [if_neg q] at a2; exact ⟨a1, a2, q⟩
      refine ⟨fun a => if a = 0 then j else w (a - 1), fun a ha => ?_, fun x hx hp => ?_, fun a b hab hb => ?_⟩
      · by_cases q : a = 0
        · simp only [if_pos q]; exact ⟨hj, pj⟩
        · simp only [if_neg q]; exact ⟨(wP (a - 1) (by omega)).1, (wP (a - 1) (by omega)).2.1⟩
      · by_cases q : x = j
        · exact ⟨0, by omega, by simp only [if_pos rfl]; exact q.symm⟩
        · obtain ⟨a, ha, ea⟩ := w2 x hx (by rw [if_neg q]; exact hp)
          exact ⟨a + 1, by omega, by simp only [if_neg (Nat.succ_ne_zero a), Nat.add_sub_cancel]; exact ea⟩
      · have hb0 : b ≠ 0 := by omega
        simp only [if_neg hb0]
        by_cases q : a = 0
        · simp only [if_pos q]
          obtain ⟨b1, b2, b3⟩ := wP (b - 1) (by omega)
          exact best _ b1 b2 b3
        · simp only [if_neg q]
          exact w3 (a - 1) (b - 1) (by omega) (by omega)
section QE
variable {σ : zSt} {A : zAb} {n m T : Nat} {c : Int32}
theorem k_ent (hC : zC σ 0 A n m c T) {h : Nat} (hh : h < n) : ∃ E : Nat → Nat, (∀ i, i < aNq A m h + aCq A m h → aEnt A h m (E i)) ∧
    (∀ i t, i < aNq A m h + aCq A m h → t < 5 → F_Law_entry (nI h) (nI i) (nI t) σ = some (aFact A n h (E i) t)) ∧ (∀ i, i + 1 < aNq A m h + aCq A m h → aAh A h (E i) (E (i + 1))) := by
  have hm := hC.hm
  have lN : aNq A m h ≤ m := fb_ct_le _ m
  have lC : aCq A m h ≤ m := fb_ct_le _ m
  obtain ⟨u, u1, u2, u3⟩ := q_enum (fun x => A 8 h x) m (aNq A m h) (fun w => decide (A 7 h w = 1)) rfl
  obtain ⟨v, v1, v2, v3⟩ := q_enum (fun x => A 11 h x) m (aCq A m h) (fun w => decide (A 10 h w = 1)) rfl
  have u1 : ∀ a, a < aNq A m h → u a < m ∧ A 7 h (u a) = 1 := fun a ha => ⟨(u1 a ha).1, of_decide_eq_true (u1 a ha).2⟩
  have v1 : ∀ a, a < aCq A m h → v a < m ∧ A 10 h (v a) = 1 := fun a ha => ⟨(v1 a ha).1, of_decide_eq_true (v1 a ha).2⟩
  have u2 : ∀ x, x < m → A 7 h x = 1 → ∃ a, a < aNq A m h ∧ u a = x := fun x hx q => u2 x hx (decide_eq_true q)
  have v2 : ∀ x, x < m → A 10 h x = 1 → ∃ a, a < aCq A m h ∧ v a = x := fun x hx q => v2 x hx (decide_eq_true q)
  generalize hcn : aCq A m h = cn at *
  generalize hnn : aNq A m h = nn at *
  have sC := x_size48 hC hh
  have sN := x_size43 hC hh
  rw [hcn] at sC
  rw [hnn] at sN
  refine ⟨fun i => if i < cn then 2 * v i + 1 else 2 * u (i - cn), fun i hi => ?_, fun i t hi ht => ?_, fun i hi => ?_⟩
  · by_cases q : i < cn
    · simp only [if_pos q]
      obtain ⟨a, b⟩ := v1 i q
      refine ⟨by omega, ?_⟩
      rw [if_pos (by omega), show (2 * v i + 1) / 2 = v i by omega]; exact b
    · simp only [if_neg q]
      obtain ⟨a, b⟩ := u1 (i - cn) (by omega)
      refine ⟨by omega, ?_⟩
      rw [if_neg (by omega), show 2 * u (i - cn) / 2 = u (i - cn) by omega]; exact b
  · have e0 : F_Law_entry (nI h) (nI i) (nI t) σ = if nI cn ≤ nI i then ((F_Entries_at 0 43 (nI h) (nI i - nI cn) σ).bind fun r8 => (F_Waves_newsEntryFact (nI h) r8 (nI t) σ).bind fun r10 => some r10) else ((F_Entries_at 0 48 (nI h) (nI i) σ).bind fun r12 => (F_Waves_correctionEntryFact (nI h) r12 (nI t) σ).bind fun r14 => some r14) := by
      rw [F_Law_entry, F_Waves_entry, x_hs hC hh, Option.bind_some, sC, Option.bind_some, sN, Option.bind_some, if_neg (nI_pos (by omega)), nI_add, if_pos (nI_lt (show i < cn + nn by omega) (by omega)), x_in (nI_pos (by omega)) (show nI t ≤ (4 : Int32) from nI_le (b := 4) (by omega) (by decide)), Option.bind_some]
    rw [e0]
    by_cases q : i < cn
    · obtain ⟨a, b⟩ := v1 i q
      simp only [if_pos q]
      rw [if_neg (nI_ge q (by omega)), x_at48 hC hh (N := cn) (by omega) v1 v2 v3 q, Option.bind_some]
      have := x_cfact hC (e := 2 * v i + 1) (t := t) hh (by omega) (by omega) (by rw [show (2 * v i + 1) / 2 = v i by omega]; exact b) ht
      rw [show (2 * v i + 1) / 2 = v i by omega] at this
      rw [this, Option.bind_some]
    · obtain ⟨a, b⟩ := u1 (i - cn) (by omega)
      simp only [if_neg q]
      rw [if_pos (nI_le (by omega) (by omega)), pk_sub (by omega), x_at43 hC hh (N := nn) (by omega) u1 u2 u3 (show i - cn < nn by omega), Option.bind_some]
      have := x_nfact hC (e := 2 * u (i - cn)) (t := t) hh (by omega) (by omega) (by rw [show 2 * u (i - cn) / 2 = u (i - cn) by omega]; exact b) ht
      rw [show 2 * u (i - cn) / 2 = u (i - cn) by omega] at this
      rw [this, Option.bind_some]
  · unfold aAh aTm
    by_cases q : i + 1 < cn
    · simp only [if_pos q, if_pos (show i < cn by omega)]
      right
      refine ⟨by omega, ?_⟩
      rw [if_pos (by omega), if_pos (by omega), show (2 * v i + 1) / 2 = v i by omega, show (2 * v (i + 1) + 1) / 2 = v (i + 1) by omega]
      rcases v3 i (i + 1) (by omega) q with z | ⟨z1, z2⟩
      · exact Or.inl z
      · exact Or.inr ⟨z1, by omega⟩
    · by_cases q2 : i < cn
      · simp only [if_neg q, if_pos q2]
        left
        omega
      · simp only [if_neg q, if_neg q2]
        right
        refine ⟨by omega, ?_⟩
        rw [if_neg (by omega), if_neg (by omega), show 2 * u (i - cn) / 2 = u (i - cn) by omega, show 2 * u (i + 1 - cn) / 2 = u (i + 1 - cn) by omega]
        rcases u3 (i - cn) (i + 1 - cn) (by omega) (by omega) with z | ⟨z1, z2⟩
        · exact Or.inl z
        · exact Or.inr ⟨z1, by omega⟩
/-- behind the checks of one entry, its place behind the one ahead of it -/
theorem q_b4 {G : zLA} {E : Nat → Nat} {h i L f : Nat} {x1 : Int32} {r : Option Int32} (hl : i < L) (hL : L < 100) (hm : m ≤ 20) (he : ∀ i, i < L → aEnt A h m (E i))
    (h2 : ∀ i t, i < L → t < 5 → F_Law_entry (nI h) (nI i) (nI t) σ = some (aFact A n h (E i) t)) (h3 : ∀ i, i + 1 < L → aAh A h (E i) (E (i + 1)))
    (kk : L_Law_queuesAreSo G σ f 1 x1 (nI h) (nI L) (nI (i + 1)) 0 0 0 0 0 = r) : L_Law_queuesAreSo G σ (f + 1) 4 x1 (nI h) (nI L) (nI i) (bI (decide (E i % 2 = 1))) (nI (E i / 2)) (aTm A h (E i)) 0 0 = r := by
  rw [e_Law_queuesAreSo_4, nI_1]
  by_cases q : i = 0
  · subst q
    rw [if_pos (show nI 0 = (0 : Int32) from rfl)]; exact kk
  · rw [if_neg (nI_ne0 (by omega) (by omega)), show (nI i - 1 : Int32) = nI (i - 1) from pk_sub (b := 1) (by omega)]
    have w1 := (he i hl).1
    have w2 := (he (i - 1) (by omega)).1
    have ah := h3 (i - 1) (by omega)
    rw [show i - 1 + 1 = i by omega] at ah
    rw [show F_Law_entry (nI h) (nI (i - 1)) (0 : Int32) σ = some (bI (decide (E (i - 1) % 2 = 1))) from h2 (i - 1) 0 (by omega) (by decide), Option.bind_some, show F_Law_entry (nI h) (nI (i - 1)) (2 : Int32) σ = some (aTm A h (E (i - 1))) from h2 (i - 1) 2 (by omega) (by decide), Option.bind_some, show F_Law_entry (nI h) (nI (i - 1)) (1 : Int32) σ = some (nI (E (i - 1) / 2)) from h2 (i - 1) 1 (by omega) (by decide)]
    rcases ah with ⟨a1, a2⟩ | ⟨a1, a2⟩
    · rw [decide_eq_true a1, decide_eq_false (show ¬ E i % 2 = 1 by omega), if_neg (show ¬ bI true < bI false by decide), if_neg (show ¬ bI true = bI false by decide)]
      exact kk
    · rw [a1, if_neg (Int32.lt_irrefl), if_pos rfl]
      by_cases z : aTm A h (E (i - 1)) = aTm A h (E i)
      · rw [if_neg (by rw [z]; exact Int32.lt_irrefl), if_pos z, Option.bind_some]
        have lt : E (i - 1) < E i := by
          rcases a2 with y | y
          · rw [z] at y; omega
          · exact y.2
        rw [if_pos (nI_lt (show E (i - 1) / 2 < E i / 2 by omega) (by omega))]
        exact kk
      · have lt : (aTm A h (E (i - 1))).toInt < (aTm A h (E i)).toInt := by
          rcases a2 with y | y
          · exact y
          · exact absurd (Int32.toInt_inj.mp y.1) z
        rw [if_neg (by rw [Int32.lt_iff_toInt_lt]; omega), if_neg z]
        exact kk
theorem l_queues (hC : zC σ 0 A n m c T) (hO : aOk A n m T) (G : zLA) : F_Law_queuesAreSo G σ = some 1 := by
  have hn := hC.hn
  have hm := hC.hm
  have hT := hC.2.2.1.2.1.2.2.1
  have key : ∀ d h, h + d = n → ∀ f, 200 * d + 1 ≤ f → L_Law_queuesAreSo G σ f 0 (zs (fun h => nI (aNq A m h + aCq A m h)) h) (nI h) 0 0 0 0 0 0 0 = some 1 := by
    intro d
    induction d with
    | zero =>
      intro h hd f hf
      obtain ⟨f, rfl⟩ : ∃ g, f = g + 1 := ⟨f - 1, by omega⟩
      have : h = n := by omega
      subst this
      rw [e_Law_queuesAreSo_0, k_c6 hC, Option.bind_some, if_pos (nI_le0 (by omega)), k_c13 hC, Option.bind_some, if_pos (zs_cong (fun i hi => (aEntries hC.2.2.1 hi).symm))]
    | succ d ih =>
      intro h hd f hf
      obtain ⟨f, rfl⟩ : ∃ g, f = g + 1 := ⟨f - 1, by omega⟩
      have hh : h < n := by omega
      have lN : aNq A m h ≤ m := fb_ct_le _ m
      have lC : aCq A m h ≤ m := fb_ct_le _ m
      rw [e_Law_queuesAreSo_0, k_c6 hC, Option.bind_some, if_neg (nI_ge hh (by omega)), k_h13 hC hh, Option.bind_some]
      obtain ⟨E, he, h2, h3⟩ := k_ent hC hh
      have next := ih (h + 1) (by omega)
      have ex : zs (fun h => nI (aNq A m h + aCq A m h)) (h + 1) = zs (fun h => nI (aNq A m h + aCq A m h)) h + nI (aNq A m h + aCq A m h) := rfl
      rw [ex] at next
      have hL : aNq A m h + aCq A m h ≤ 40 := by omega
      generalize zs (fun h => nI (aNq A m h + aCq A m h)) h + nI (aNq A m h + aCq A m h) = x1 at *
      generalize aNq A m h + aCq A m h = L at *
      have inner : ∀ d' i, i + d' = L → ∀ f, 4 * d' + 200 * d + 2 ≤ f → L_Law_queuesAreSo G σ f 1 x1 (nI h) (nI L) (nI i) 0 0 0 0 0 = some 1 := by
        intro d'
        induction d' with
        | zero =>
          intro i hi f hf
          obtain ⟨f, rfl⟩ : ∃ g, f = g + 1 := ⟨f - 1, by omega⟩
          rw [e_Law_queuesAreSo_1, if_pos (nI_le (by omega) (by omega)), nI_1]
          exact next f (by omega)
        | succ d' ih' =>
          intro i hi f hf
          obtain ⟨f, rfl⟩ : ∃ g, f = g + 4 := ⟨f - 4, by omega⟩
          have hi' : i < L := by omega
          have kk := ih' (i + 1) (by omega) f (by omega)
          have b4 := q_b4 hi' (show L < 100 by omega) hm he h2 h3 kk
          obtain ⟨hw, ent⟩ := he i hi'
          rw [e_Law_queuesAreSo_1, if_neg (nI_ge hi' (by omega)), show F_Law_entry (nI h) (nI i) (0 : Int32) σ = some (bI (decide (E i % 2 = 1))) from h2 i 0 hi' (by decide), Option.bind_some, show F_Law_entry (nI h) (nI i) (1 : Int32) σ = some (nI (E i / 2)) from h2 i 1 hi' (by decide), Option.bind_some, show F_Law_entry (nI h) (nI i) (2 : Int32) σ = some (aTm A h (E i)) from h2 i 2 hi' (by decide), Option.bind_some, show F_Law_entry (nI h) (nI i) (3 : Int32) σ = some (if E i % 2 = 1 then -1 else A 9 h (E i / 2)) from h2 i 3 hi' (by decide), Option.bind_some, k_c8 hC, Option.bind_some]
          have e4 : F_Law_entry (nI h) (nI i) (4 : Int32) σ = some (bI (aCs A n h (E i))) := h2 i 4 hi' (by decide)
          have p := hC.2.2.1.2.2.2.2 h (E i / 2) hh hw
          have o := hO.2 h (E i / 2) hh hw
          have oT := hO.2 h (E i / 2) hh hw
          by_cases q : E i % 2 = 1
          · rw [if_pos q] at ent
            obtain ⟨t, ht, et⟩ := o.2.2.2.2.2 ent
            have etm : aTm A h (E i) = nI t := by unfold aTm; rw [if_pos q]; exact et
            have k4 := p.2.2.2.2.2.2.2.2.2.2.2 ent
            have due := hC.2.2.2.1 h (E i / 2) hh hw ent
            have ec : aCs A n h (E i) = aSend A n h (E i / 2) := by unfold aCs; rw [if_pos q]
            rw [decide_eq_true q] at b4 ⊢
            rw [if_pos q, if_neg (by rw [etm]; exact nI_nlt ht (by omega)), show (10 : Int32) + bI true = 11 by decide, k_h11 hC hh, Option.bind_some, if_neg (fun z => by
              have := (zm_has (by omega) hw).mp z
              unfold aKn at this
              rw [if_neg (by decide), if_pos rfl, decide_eq_true k4] at this
              exact absurd this (by decide)), if_pos rfl, if_pos (show bI true = (1 : Int32) by decide)]
            rw [e_Law_queuesAreSo_2, if_pos rfl, if_pos (show bI true = (1 : Int32) by decide), k_owes hC hh hw, Option.bind_some, if_neg due, e4, Option.bind_some, Option.bind_some, k_h14 hC hh, Option.bind_some, ec]
            have b3 : L_Law_queuesAreSo G σ (f + 2) 3 x1 (nI h) (nI L) (nI i) (bI true) (nI (E i / 2)) (aTm A h (E i)) 0 0 = some 1 := by
              rw [e_Law_queuesAreSo_3, if_neg (show ¬ bI true = (0 : Int32) by decide)]
              exact b4
            by_cases z : aOws A n h (E i / 2) &&& aNear A n h = 0
            · rw [if_pos z, if_pos (by unfold aSend; rw [decide_eq_true z]; decide)]
              exact b3
            · rw [if_neg z, if_pos (by unfold aSend; rw [decide_eq_false z]; decide)]
              exact b3
          · rw [if_neg q] at ent
            obtain ⟨k3, -, t, ht, et⟩ := o.2.2.2.2.1 ent
            have etm : aTm A h (E i) = nI t := by unfold aTm; rw [if_neg q]; exact et
            obtain ⟨g, hg, eg⟩ := p.2.2.2.2.2.2.2.1
            have k4 : ¬ A 4 h (E i / 2) = 1 := fun z => by
              have := p.2.2.2.2.2.2.2.2.2.2.1 z
              rw [this] at ent; exact absurd ent (by decide)
            have ec : aCs A n h (E i) = true := by unfold aCs; rw [if_neg q]
            rw [decide_eq_false q] at b4 ⊢
            rw [if_neg q, if_neg (by rw [etm]; exact nI_nlt ht (by omega)), show (10 : Int32) + bI false = 10 by decide, k_h10 hC hh, Option.bind_some, if_neg (fun z => by
              have := (zm_has (by omega) hw).mp z
              unfold aKn at this
              rw [if_pos rfl, decide_eq_true k3] at this
              exact absurd this (by decide)), if_neg (by rw [eg]; exact nI_m1 (by omega)), if_neg (show ¬ bI false = (1 : Int32) by decide)]
            rw [e_Law_queuesAreSo_2, if_pos rfl, if_neg (show ¬ bI false = (1 : Int32) by decide), e_Law_queuesAreSo_3, if_pos (show bI false = (0 : Int32) by decide), e4, Option.bind_some, ec, if_pos (show bI true = (1 : Int32) by decide), k_h11 hC hh, Option.bind_some, if_neg (fun z => by
              rw [zm_get (by omega) hw] at z
              unfold aKn at z
              rw [if_neg (show ¬ (1 : Nat) = 0 by decide), if_pos rfl, decide_eq_false k4, if_neg (by decide)] at z
              exact absurd z (by decide))]
            exact b4
      exact inner L 0 (by omega) f (by omega)
  rw [F_Law_queuesAreSo]
  exact key n 0 (by omega) zK (Nat.le_of_lt (zK_lt (by omega)))
end QE
