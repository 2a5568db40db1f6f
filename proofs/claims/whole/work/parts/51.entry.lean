/-! entry: the queue's places -/
def zLt (t : Nat → Int32) (x y : Nat) : Prop := (t x).toInt < (t y).toInt ∨ ((t x).toInt = (t y).toInt ∧ x < y)
def bl (w : Nat → Nat) : Nat → Nat → Nat → Bool
  | _, 0, _ => false
  | a, d + 1, x => decide (w a = x) || bl w (a + 1) d x
theorem bl_t {w : Nat → Nat} {x : Nat} : ∀ {d a : Nat}, bl w a d x = true ↔ ∃ b, a ≤ b ∧ b < a + d ∧ w b = x
  | 0, a => by
    constructor
    · intro h; cases h
    · rintro ⟨b, h1, h2, -⟩; omega
  | d + 1, a => by
    rw [bl, Bool.or_eq_true, bl_t, decide_eq_true_eq]
    constructor
    · rintro (h | ⟨b, h1, h2, h3⟩)
      · exact ⟨a, Nat.le_refl a, by omega, h⟩
      · exact ⟨b, by omega, by omega, h3⟩
    · rintro ⟨b, h1, h2, h3⟩
      by_cases z : b = a
      · subst z; exact Or.inl h3
      · exact Or.inr ⟨b, by omega, by omega, h3⟩
theorem zLt_ir {t : Nat → Int32} {x : Nat} : ¬ zLt t x x := by
  rintro (h | ⟨-, h⟩) <;> omega
theorem zLt_as {t : Nat → Int32} {x y : Nat} (h1 : zLt t x y) (h2 : zLt t y x) : False := by
  rcases h1 with h1 | ⟨h1, h3⟩ <;> rcases h2 with h2 | ⟨h2, h4⟩ <;> omega
theorem bl_rest {w : Nat → Nat} {t : Nat → Int32} {N a d x : Nat} (h3 : ∀ a b, a < b → b < N → zLt t (w a) (w b)) (ha : a + d + 1 ≤ N) : (bl w a (d + 1) x && !decide (x = w a)) = bl w (a + 1) d x := by
  rw [bl]
  by_cases z : x = w a
  · subst z
    cases q : bl w (a + 1) d (w a) with
    | true =>
      obtain ⟨b, b1, b2, b3⟩ := bl_t.mp q
      have := h3 a b (by omega) (by omega)
      rw [b3] at this
      exact absurd this zLt_ir
    | false => simp
  · have z2 : ¬ w a = x := fun y => z y.symm
    simp [z, z2]
theorem bl_best {w : Nat → Nat} {t : Nat → Int32} {N m a d : Nat} (hw : ∀ b, b < N → w b < m) (h3 : ∀ a b, a < b → b < N → zLt t (w a) (w b)) (ha : a + d + 1 ≤ N) : zbest (bl w a (d + 1)) t m = some (w a) := by
  cases q : zbest (bl w a (d + 1)) t m with
  | none =>
    have := zbest_none q (w a) (hw a (by omega))
    rw [bl_t.mpr ⟨a, Nat.le_refl a, by omega, rfl⟩] at this
    exact absurd this (by decide)
  | some j =>
    obtain ⟨j1, j2, j3⟩ := zbest_some q
    obtain ⟨b, b1, b2, rfl⟩ := bl_t.mp j2
    by_cases z : b = a
    · subst z; rfl
    · have l1 := h3 a b (by omega) (by omega)
      by_cases y : w a = w b
      · rw [y]
      · exact absurd (j3 (w a) (hw a (by omega)) (bl_t.mpr ⟨a, Nat.le_refl a, by omega, rfl⟩) y) (fun l2 => zLt_as l1 l2)
section JE
variable {σ : zSt} {K : Nat} {A : zAb} {n m T : Nat} {c : Int32}

theorem x_at43 (hC : zC σ 0 A n m c T) {h N : Nat} (hh : h < n) {w : Nat → Nat} (hN : N < 100) (h1 : ∀ a, a < N → w a < m ∧ A 7 h (w a) = 1) (h2 : ∀ x, x < m → A 7 h x = 1 → ∃ a, a < N ∧ w a = x) (h3 : ∀ a b, a < b → b < N → zLt (fun x => A 8 h x) (w a) (w b)) {i : Nat} (hi : i < N) : F_Entries_at 0 43 (nI h) (nI i) σ = some (nI (w i)) := by
  have hn := hC.hn
  have hm := hC.hm
  have fst : ∀ a d, a + d + 1 = N → F_Entries_first 0 43 (nI h) (zm (bl w a (d + 1)) m) σ = some (nI (w a)) := fun a d e => by
    rw [c_first43 hC.1 hC.2.2.1 hh (fun x _ y => by
      obtain ⟨b, _, b2, rfl⟩ := bl_t.mp y
      exact (h1 b (by omega)).2), bl_best (N := N) (fun b hb => (h1 b hb).1) h3 (by omega)]
    rfl
  have e0 : zm (fun x => decide (A 7 h x = 1)) m = zm (bl w 0 N) m := zm_congr (fun x hx => by
    cases q : bl w 0 N x with
    | true =>
      obtain ⟨b, _, b2, rfl⟩ := bl_t.mp q
      exact decide_eq_true (h1 b (by omega)).2
    | false =>
      refine decide_eq_false (fun y => ?_)
      obtain ⟨a, a1, a2⟩ := h2 x hx y
      rw [bl_t.mpr ⟨a, Nat.zero_le a, by omega, a2⟩] at q
      exact absurd q (by decide))
  rw [F_Entries_at, show F_Row_get 0 44 (nI h) σ = some (zm (fun x => decide (A 7 h x = 1)) m) from c_set44 hC.1 hC.2.2.1 hh, Option.bind_some, e0]
  have key : ∀ e a j, a + e = i → e < j → L_Entries_at 0 43 σ j 0 (nI h) (nI i) (zm (bl w a (N - a)) m) (nI a) = some (nI (w i)) := by
    intro e
    induction e with
    | zero =>
      intro a j ha hj
      obtain ⟨j, rfl⟩ : ∃ q, j = q + 1 := ⟨j - 1, by omega⟩
      have : a = i := by omega
      subst this
      rw [e_Entries_at_0, if_pos (nI_le0 (by omega)), show N - a = (N - a - 1) + 1 by omega, fst a _ (by omega), Option.bind_some]
    | succ e ih =>
      intro a j ha hj
      obtain ⟨j, rfl⟩ : ∃ q, j = q + 1 := ⟨j - 1, by omega⟩
      rw [e_Entries_at_0, if_neg (nI_ge (show a < i by omega) (by omega)), show N - a = (N - a - 1) + 1 by omega, fst a _ (by omega), Option.bind_some, F_Waves_bit, Option.bind_some, zm_leave (by omega) (h1 a (by omega)).1, nI_1]
      have e2 : zm (fun x => bl w a (N - a - 1 + 1) x && !decide (x = w a)) m = zm (bl w (a + 1) (N - (a + 1))) m := zm_congr (fun x _ => by
        rw [show N - (a + 1) = N - a - 1 by omega]
        exact bl_rest h3 (by omega))
      rw [e2]
      exact ih (a + 1) j (by omega) (by omega)
  exact key i 0 zK (by omega) (zK_lt (by omega))

theorem x_at48 (hC : zC σ 0 A n m c T) {h N : Nat} (hh : h < n) {w : Nat → Nat} (hN : N < 100) (h1 : ∀ a, a < N → w a < m ∧ A 10 h (w a) = 1) (h2 : ∀ x, x < m → A 10 h x = 1 → ∃ a, a < N ∧ w a = x) (h3 : ∀ a b, a < b → b < N → zLt (fun x => A 11 h x) (w a) (w b)) {i : Nat} (hi : i < N) : F_Entries_at 0 48 (nI h) (nI i) σ = some (nI (w i)) := by
  have hn := hC.hn
  have hm := hC.hm
  have fst : ∀ a d, a + d + 1 = N → F_Entries_first 0 48 (nI h) (zm (bl w a (d + 1)) m) σ = some (nI (w a)) := fun a d e => by
    rw [c_first48 hC.1 hC.2.2.1 hh (fun x _ y => by
      obtain ⟨b, _, b2, rfl⟩ := bl_t.mp y
      exact (h1 b (by omega)).2), bl_best (N := N) (fun b hb => (h1 b hb).1) h3 (by omega)]
    rfl
  have e0 : zm (fun x => decide (A 10 h x = 1)) m = zm (bl w 0 N) m := zm_congr (fun x hx => by
    cases q : bl w 0 N x with
    | true =>
      obtain ⟨b, _, b2, rfl⟩ := bl_t.mp q
      exact decide_eq_true (h1 b (by omega)).2
    | false =>
      refine decide_eq_false (fun y => ?_)
      obtain ⟨a, a1, a2⟩ := h2 x hx y
      rw [bl_t.mpr ⟨a, Nat.zero_le a, by omega, a2⟩] at q
      exact absurd q (by decide))
  rw [F_Entries_at, show F_Row_get 0 49 (nI h) σ = some (zm (fun x => decide (A 10 h x = 1)) m) from by rw [r_get49 (show h < 12 by omega), (hC.1.2.2.2.1 h (show h < 12 by omega)).2]; congr 1; exact zm_congr (fun w _ => by simp [hh]), Option.bind_some, e0]
  have key : ∀ e a j, a + e = i → e < j → L_Entries_at 0 48 σ j 0 (nI h) (nI i) (zm (bl w a (N - a)) m) (nI a) = some (nI (w i)) := by
    intro e
    induction e with
    | zero =>
      intro a j ha hj
      obtain ⟨j, rfl⟩ : ∃ q, j = q + 1 := ⟨j - 1, by omega⟩
      have : a = i := by omega
      subst this
      rw [e_Entries_at_0, if_pos (nI_le0 (by omega)), show N - a = (N - a - 1) + 1 by omega, fst a _ (by omega), Option.bind_some]
    | succ e ih =>
      intro a j ha hj
      obtain ⟨j, rfl⟩ : ∃ q, j = q + 1 := ⟨j - 1, by omega⟩
      rw [e_Entries_at_0, if_neg (nI_ge (show a < i by omega) (by omega)), show N - a = (N - a - 1) + 1 by omega, fst a _ (by omega), Option.bind_some, F_Waves_bit, Option.bind_some, zm_leave (by omega) (h1 a (by omega)).1, nI_1]
      have e2 : zm (fun x => bl w a (N - a - 1 + 1) x && !decide (x = w a)) m = zm (bl w (a + 1) (N - (a + 1))) m := zm_congr (fun x _ => by
        rw [show N - (a + 1) = N - a - 1 by omega]
        exact bl_rest h3 (by omega))
      rw [e2]
      exact ih (a + 1) j (by omega) (by omega)
  exact key i 0 zK (by omega) (zK_lt (by omega))

/-- the queue's news and corrections by their places -/
theorem q_at {s : zSt} (hC : zC σ 0 A n m c T) {h : Nat} (hh : h < n) {q : Nat → Nat} (hQ : zQu s A h q (aCq A m h + aNq A m h) (aCq A m h) (aEnt A h m)) :
    (∀ i, i < aCq A m h → q i % 2 = 1 ∧ q i / 2 < m ∧ A 10 h (q i / 2) = 1 ∧ F_Entries_at 0 48 (nI h) (nI i) σ = some (nI (q i / 2))) ∧
    (∀ i, i < aNq A m h → q (aCq A m h + i) % 2 = 0 ∧ q (aCq A m h + i) / 2 < m ∧ A 7 h (q (aCq A m h + i) / 2) = 1 ∧ F_Entries_at 0 43 (nI h) (nI i) σ = some (nI (q (aCq A m h + i) / 2))) := by
  obtain ⟨-, hq, hso, hin, hc, hodd⟩ := hQ
  have hm := hC.hm
  have lc : aCq A m h ≤ m := fb_ct_le _ m
  have ln : aNq A m h ≤ m := fb_ct_le _ m
  generalize aCq A m h = C at *
  generalize aNq A m h = N at *
  have ent : ∀ i, i < C + N → aEnt A h m (q i) := fun i hi => (hin _).mpr ⟨i, hi, rfl⟩
  have cor : ∀ i, i < C → q i % 2 = 1 ∧ q i / 2 < m ∧ A 10 h (q i / 2) = 1 := fun i hi => by
    have o := (hodd i (by omega)).mpr hi
    obtain ⟨e1, e2⟩ := ent i (by omega)
    rw [if_pos o] at e2
    exact ⟨o, e1, e2⟩
  have nws : ∀ i, i < N → q (C + i) % 2 = 0 ∧ q (C + i) / 2 < m ∧ A 7 h (q (C + i) / 2) = 1 := fun i hi => by
    have o : ¬ q (C + i) % 2 = 1 := fun z => by
      have := (hodd (C + i) (by omega)).mp z
      omega
    obtain ⟨e1, e2⟩ := ent (C + i) (by omega)
    rw [if_neg o] at e2
    exact ⟨by omega, e1, e2⟩
  refine ⟨fun i hi => ⟨(cor i hi).1, (cor i hi).2.1, (cor i hi).2.2, ?_⟩, fun i hi => ⟨(nws i hi).1, (nws i hi).2.1, (nws i hi).2.2, ?_⟩⟩
  · refine x_at48 hC hh (w := fun a => q a / 2) (N := C) (by omega) (fun a ha => (cor a ha).2) (fun x hx y => ?_) (fun a b hab hb => ?_) hi
    · have e1 : (2 * x + 1) / 2 = x := by omega
      have e2 : (2 * x + 1) % 2 = 1 := by omega
      obtain ⟨a, ha, ea⟩ := (hin (2 * x + 1)).mp ⟨by rw [e1]; exact hx, by rw [if_pos e2, e1]; exact y⟩
      have ac : a < C := (hodd a ha).mp (by rw [ea]; exact e2)
      exact ⟨a, ac, by show q a / 2 = x; rw [ea, e1]⟩
    · have o1 := (cor a (by omega)).1
      have o2 := (cor b hb).1
      rcases hso a b hab (by omega) with ⟨_, z⟩ | ⟨_, z⟩
      · omega
      · unfold aTm at z
        rw [if_pos o1, if_pos o2] at z
        rcases z with z | ⟨z, z2⟩
        · exact Or.inl z
        · exact Or.inr ⟨z, by show q a / 2 < q b / 2; omega⟩
  · refine x_at43 hC hh (w := fun a => q (C + a) / 2) (N := N) (by omega) (fun a ha => (nws a ha).2) (fun x hx y => ?_) (fun a b hab hb => ?_) hi
    · have e1 : (2 * x) / 2 = x := by omega
      have e2 : ¬ (2 * x) % 2 = 1 := by omega
      obtain ⟨a, ha, ea⟩ := (hin (2 * x)).mp ⟨by rw [e1]; exact hx, by rw [if_neg e2, e1]; exact y⟩
      have ac : ¬ a < C := fun z => e2 (by rw [← ea]; exact (hodd a ha).mpr z)
      exact ⟨a - C, by omega, by show q (C + (a - C)) / 2 = x; rw [show C + (a - C) = a by omega, ea, e1]⟩
    · have o1 := (nws a (by omega)).1
      have o2 := (nws b hb).1
      rcases hso (C + a) (C + b) (by omega) (by omega) with ⟨z, _⟩ | ⟨_, z⟩
      · omega
      · unfold aTm at z
        rw [if_neg (by omega), if_neg (by omega)] at z
        rcases z with z | ⟨z, z2⟩
        · exact Or.inl z
        · exact Or.inr ⟨z, by show q (C + a) / 2 < q (C + b) / 2; omega⟩
/-- an entry's facts -/
def aFact (A : zAb) (n h e t : Nat) : Int32 := if t = 0 then bI (decide (e % 2 = 1)) else if t = 1 then nI (e / 2) else if t = 2 then aTm A h e else if t = 3 then (if e % 2 = 1 then -1 else A 9 h (e / 2)) else bI (aCs A n h e)
theorem x_cfact (hC : zC σ 0 A n m c T) {h e t : Nat} (hh : h < n) (ho : e % 2 = 1) (hw : e / 2 < m) (h10 : A 10 h (e / 2) = 1) (ht : t < 5) : F_Waves_correctionEntryFact (nI h) (nI (e / 2)) (nI t) σ = some (aFact A n h e t) := by
  have hn := hC.hn
  have hm := hC.hm
  rw [F_Waves_correctionEntryFact]
  unfold aFact
  rcases (show t = 0 ∨ t = 1 ∨ t = 2 ∨ t = 3 ∨ t = 4 by omega) with rfl | rfl | rfl | rfl | rfl
  · rw [if_pos (show nI 0 = (0 : Int32) from rfl), if_pos rfl, ho]; rfl
  · rw [if_neg (show ¬ nI 1 = (0 : Int32) by decide), if_pos (show nI 1 = (1 : Int32) from rfl)]; rfl
  · rw [if_neg (show ¬ nI 2 = (0 : Int32) by decide), if_neg (show ¬ nI 2 = (1 : Int32) by decide), if_pos (show nI 2 = (2 : Int32) from rfl), F_Entries_time, r_cell, Option.bind_some, r_get51 (by omega), Option.bind_some, Option.bind_some, (hC.1.2.2.2.2.1 h (e / 2) hh hw).2 h10]
    unfold aTm
    rw [if_pos ho]
    rfl
  · rw [if_neg (show ¬ nI 3 = (0 : Int32) by decide), if_neg (show ¬ nI 3 = (1 : Int32) by decide), if_neg (show ¬ nI 3 = (2 : Int32) by decide), if_pos (show nI 3 = (3 : Int32) from rfl), if_pos ho]
    rfl
  · rw [if_neg (show ¬ nI 4 = (0 : Int32) by decide), if_neg (show ¬ nI 4 = (1 : Int32) by decide), if_neg (show ¬ nI 4 = (2 : Int32) by decide), if_neg (show ¬ nI 4 = (3 : Int32) by decide), c_sendable hC.1 hC.2.2.1 hh, Option.bind_some, z_contains (by omega) hw, Option.bind_some]
    have cs : aCs A n h e = aSend A n h (e / 2) := by
      unfold aCs
      rw [if_pos ho]
    rw [cs, h10]
    cases aSend A n h (e / 2) <;> rfl
theorem x_nfact (hC : zC σ 0 A n m c T) {h e t : Nat} (hh : h < n) (ho : e % 2 = 0) (hw : e / 2 < m) (h7 : A 7 h (e / 2) = 1) (ht : t < 5) : F_Waves_newsEntryFact (nI h) (nI (e / 2)) (nI t) σ = some (aFact A n h e t) := by
  have hn := hC.hn
  have hm := hC.hm
  have ho1 : ¬ e % 2 = 1 := by omega
  obtain ⟨g1, g2⟩ := (hC.1.2.2.2.2.1 h (e / 2) hh hw).1 h7
  rw [F_Waves_newsEntryFact]
  unfold aFact
  rcases (show t = 0 ∨ t = 1 ∨ t = 2 ∨ t = 3 ∨ t = 4 by omega) with rfl | rfl | rfl | rfl | rfl
  · rw [if_pos (show nI 0 = (0 : Int32) from rfl), if_pos rfl, ho]; rfl
  · rw [if_neg (show ¬ nI 1 = (0 : Int32) by decide), if_pos (show nI 1 = (1 : Int32) from rfl)]; rfl
  · rw [if_neg (show ¬ nI 2 = (0 : Int32) by decide), if_neg (show ¬ nI 2 = (1 : Int32) by decide), if_pos (show nI 2 = (2 : Int32) from rfl), F_Entries_time, r_cell, Option.bind_some, r_get46 (by omega), Option.bind_some, Option.bind_some, g1]
    unfold aTm
    rw [if_neg ho1]
    rfl
  · rw [if_neg (show ¬ nI 3 = (0 : Int32) by decide), if_neg (show ¬ nI 3 = (1 : Int32) by decide), if_neg (show ¬ nI 3 = (2 : Int32) by decide), if_pos (show nI 3 = (3 : Int32) from rfl), r_cell, Option.bind_some, r_get53 (by omega), Option.bind_some, g2, if_neg ho1]
    rfl
  · rw [if_neg (show ¬ nI 4 = (0 : Int32) by decide), if_neg (show ¬ nI 4 = (1 : Int32) by decide), if_neg (show ¬ nI 4 = (2 : Int32) by decide), if_neg (show ¬ nI 4 = (3 : Int32) by decide)]
    have cs : aCs A n h e = true := by
      unfold aCs
      rw [if_neg ho1]
    rw [cs]
    rfl
theorem m_fact {s : zSt} (hM : zMr s A) (hZ : zSz A n m) {h e t : Nat} (hh : h < 12) (he : e < 40) (ht : t < 5) {k : Int32} : (if nI t = (0 : Int32) then ((F_Model_isCorrection (nI e) s).bind fun r14 => if r14 = 0 then some ((0 : Int32), s) else some ((1 : Int32), s)) else (if nI t = (1 : Int32) then some ((nI e / (2 : Int32)), s) else (if nI t = (2 : Int32) then ((F_Model_timeOf (nI h) (nI e) s).bind fun r19 => some (r19, s)) else (if nI t = (3 : Int32) then ((F_Model_isCorrection (nI e) s).bind fun r22 => if r22 = 0 then ((F_Model_pair (nI h) (nI e / (2 : Int32)) (6 : Int32) s).bind fun r24 => some (r24, s)) else some ((-1 : Int32), s)) else (if nI t = (4 : Int32) then ((F_Model_canSend (nI h) (nI e) s).bind fun r28 => if r28 = 0 then some ((0 : Int32), s) else some ((1 : Int32), s)) else (bd2 (F_Model_fail k s) fun r31 σ32 => some (r31, σ32))))))) = some (aFact A n h e t, s) := by
  unfold aFact
  have ic : F_Model_isCorrection (nI e) s = some (bI (decide (e % 2 = 1))) := m_isCorrection (by omega)
  rcases (show t = 0 ∨ t = 1 ∨ t = 2 ∨ t = 3 ∨ t = 4 by omega) with rfl | rfl | rfl | rfl | rfl
  · rw [if_pos (show nI 0 = (0 : Int32) from rfl), ic, Option.bind_some, if_pos rfl]
    cases decide (e % 2 = 1) <;> rfl
  · rw [if_neg (show ¬ nI 1 = (0 : Int32) by decide), if_pos (show nI 1 = (1 : Int32) from rfl), m_half (by omega)]; rfl
  · rw [if_neg (show ¬ nI 2 = (0 : Int32) by decide), if_neg (show ¬ nI 2 = (1 : Int32) by decide), if_pos (show nI 2 = (2 : Int32) from rfl), m_timeOf hM hh he]; rfl
  · rw [if_neg (show ¬ nI 3 = (0 : Int32) by decide), if_neg (show ¬ nI 3 = (1 : Int32) by decide), if_neg (show ¬ nI 3 = (2 : Int32) by decide), if_pos (show nI 3 = (3 : Int32) from rfl), ic, Option.bind_some]
    by_cases z : e % 2 = 1
    · rw [if_neg (show ¬ bI (decide (e % 2 = 1)) = 0 by simp [z, bI])]
      simp [z]
    · rw [if_pos (show bI (decide (e % 2 = 1)) = 0 by simp [z, bI]), m_half (by omega), m_pair6 hM hh (show e / 2 < 20 by omega)]
      simp [z]
  · rw [if_neg (show ¬ nI 4 = (0 : Int32) by decide), if_neg (show ¬ nI 4 = (1 : Int32) by decide), if_neg (show ¬ nI 4 = (2 : Int32) by decide), if_neg (show ¬ nI 4 = (3 : Int32) by decide), if_pos (show nI 4 = (4 : Int32) from rfl), m_canSend hM hZ hh he, Option.bind_some]
    cases aCs A n h e <;> rfl
theorem j_entry (J : zJ σ K) (a b d : Int32) : zRI K (F_Law_entry a b d σ) (F_Model_entry a b d) := by
  obtain ⟨A, n, m, c, T, hT, hC, hM, hp⟩ := id J
  have hn := hC.hn
  have hm := hC.hm
  have hI := hC.2.2.1
  have hZ := hI.1
  rcases z_idx a (n := n) (by omega) with ⟨h, hh, rfl⟩ | ha
  · have lc : aCq A m h ≤ m := fb_ct_le _ m
    have ln : aNq A m h ≤ m := fb_ct_le _ m
    have h12 : h < 12 := by omega
    have tms : ∀ w, w < m → zTm (A 8 h w) ∧ zTm (A 11 h w) := fun w hw => (aInv_c hI).2.1 h w hh hw
    have ment : ∀ s, zMr s A → F_Model_entriesOf (nI h) s = some (nI (aCq A m h + aNq A m h)) := fun s hs => by rw [m_entriesOf hs hZ h12, aEntries hI hh, Nat.add_comm]
    rcases z_idx b (n := aCq A m h + aNq A m h) (by omega) with ⟨i, hi, rfl⟩ | hb
    · have mbt : zBt (nI i) 0 (nI (aCq A m h + aNq A m h) - 1) = true := by
        rw [show nI (aCq A m h + aNq A m h) - 1 = nI (aCq A m h + aNq A m h - 1) from pk_sub (b := 1) (by omega)]
        exact zBt_n (lo := 0) (by omega) (by omega) (by omega)
      obtain ⟨s0, e0, ⟨q, hQ⟩, -, -⟩ := m_layQueue hM hZ h12 tms
      have hQ : zQu s0 A h q (aCq A m h + aNq A m h) (aCq A m h) (aEnt A h m) := hQ
      obtain ⟨qc, qn⟩ := q_at hC hh hQ
      have same : ∀ (s2 : zSt) (q2 : Nat → Nat), zQu s2 A h q2 (aCq A m h + aNq A m h) (aCq A m h) (aEnt A h m) → q2 i = q i := fun s2 q2 h2 => by
        obtain ⟨qc2, qn2⟩ := q_at hC hh h2
        have l1 := (hQ.2.1 i hi).2
        have l2 := (h2.2.1 i hi).2
        by_cases z : i < aCq A m h
        · obtain ⟨a1, -, -, a2⟩ := qc i z
          obtain ⟨b1, -, -, b2⟩ := qc2 i z
          have := Option.some.inj (b2.symm.trans a2)
          have := (nI_eq (by omega) (by omega)).mp this
          omega
        · have e : aCq A m h + (i - aCq A m h) = i := by omega
          obtain ⟨a1, -, -, a2⟩ := qn (i - aCq A m h) (by omega)
          obtain ⟨b1, -, -, b2⟩ := qn2 (i - aCq A m h) (by omega)
          rw [e] at a1 a2 b1 b2
          have := Option.some.inj (b2.symm.trans a2)
          have := (nI_eq (by omega) (by omega)).mp this
          omega
      have sz : nI (aCq A m h) + nI (aNq A m h) = nI (aCq A m h + aNq A m h) := nI_add _ _
      cases q1 : zBt d 0 4 with
      | true =>
        have q1' := q1
        obtain ⟨t, -, ht, rfl⟩ := z_rng (lo := 0) (hi := 4) q1 (by decide) (by decide)
        have X : F_Waves_entry (nI h) (nI i) (nI t) σ = some (.inl (aFact A n h (q i) t)) := by
          rw [F_Waves_entry, x_h1 hC hh, Option.bind_some]
          dsimp only
          rw [x_size48 hC hh, Option.bind_some, x_size43 hC hh, Option.bind_some, if_neg (nI_pos (by omega)), sz, if_pos (nI_lt hi (by omega)), x_in1 q1', Option.bind_some]
          dsimp only
          by_cases z : i < aCq A m h
          · obtain ⟨a1, a2, a3, a4⟩ := qc i z
            rw [if_neg (nI_ge z (by omega)), a4, Option.bind_some, x_cfact hC hh a1 a2 a3 (by omega), Option.bind_some]
          · have e : aCq A m h + (i - aCq A m h) = i := by omega
            obtain ⟨a1, a2, a3, a4⟩ := qn (i - aCq A m h) (by omega)
            rw [e] at a1 a2 a3 a4
            rw [if_pos (nI_le (by omega) (by omega)), pk_sub (by omega), a4, Option.bind_some, x_nfact hC hh a1 a2 a3 (by omega), Option.bind_some]
        refine zRI.ok (r := aFact A n h (q i) t) (A' := A) hp hM (by rw [F_Law_entry, X]; rfl) (zfX.rf σ) hC hT (Nat.le_refl K) (fun s hs _ => ?_)
        rw [F_Model_entry, m_isHouse1 (hs.t8 0) hZ hh, Option.bind_some, if_neg (by decide), ment _ (hs.t8 0), Option.bind_some, m_in1 mbt, Option.bind_some, if_neg (by decide)]
        refine zOk.bind (m_layQueue (hs.t8 0) hZ h12 tms) (fun s2 ⟨⟨q2, hQ2⟩, g1, g2⟩ => ?_)
        have hQ2 : zQu s2 A h q2 (aCq A m h + aNq A m h) (aCq A m h) (aEnt A h m) := hQ2
        obtain ⟨k1, k2⟩ := hQ2.2.1 i hi
        rw [if_pos (inb_n (show i < 40 by omega) (by decide)), nI_clamp (by omega), k1, same s2 q2 hQ2, m_fact g1 hZ h12 (by rw [← same s2 q2 hQ2]; exact k2) (by omega)]
        exact ⟨_, rfl, rfl, g1, (zfN.t8 s 0).tr (zfN.m g2), (g2.2.1 8 (by decide)).trans (zst_8 s 0)⟩
      | false =>
        have ne : ∀ k, k ≤ 4 → ¬ d = nI k := fun k hk => zBt_ne (lo := 0) (hi := 4) q1 (Nat.zero_le k) hk (by decide)
        refine ⟨(2, σ), ?_, ?_⟩
        · rw [F_Law_entry, F_Waves_entry, x_h1 hC hh, Option.bind_some]
          dsimp only
          rw [x_size48 hC hh, Option.bind_some, x_size43 hC hh, Option.bind_some, if_neg (nI_pos (by omega)), sz, if_pos (nI_lt hi (by omega)), x_in0 q1, Option.bind_some]
          rfl
        · show zOk (F_Model_entry (nI h) (nI i) d σ) _
          rw [F_Model_entry, m_isHouse1 (hM.t8 0) hZ hh, Option.bind_some, if_neg (by decide), ment _ (hM.t8 0), Option.bind_some, m_in1 mbt, Option.bind_some, if_neg (by decide)]
          refine zOk.bind (m_layQueue (hM.t8 0) hZ h12 tms) (fun s2 ⟨_, g1, g2⟩ => ?_)
          rw [if_pos (inb_n (show i < 40 by omega) (by decide)), if_neg (show ¬ d = 0 from ne 0 (by decide)), if_neg (show ¬ d = 1 from ne 1 (by decide)), if_neg (show ¬ d = 2 from ne 2 (by decide)), if_neg (show ¬ d = 3 from ne 3 (by decide)), if_neg (show ¬ d = 4 from ne 4 (by decide))]
          refine ⟨(0, zst s2 4 80 8 2), rfl, zJ_mk hp (zfX.rf σ) rfl (((zfN.t8 σ 0).tr (zfN.m g2)).tr (zfN.t8 s2 2)) hC (g1.t8 2) hT (Nat.le_refl K), zst_8 s2 2, fun z => absurd z (show ¬ (2 : Int32) = 0 by decide)⟩
    · refine zRI.no (k := 1) J hM ?_ (by decide) (fun s hs _ => ?_)
      · have sz : nI (aCq A m h) + nI (aNq A m h) = nI (aCq A m h + aNq A m h) := nI_add _ _
        rw [F_Law_entry, F_Waves_entry, x_h1 hC hh, Option.bind_some]
        dsimp only
        rw [x_size48 hC hh, Option.bind_some, x_size43 hC hh, Option.bind_some, sz]
        by_cases z : b < 0
        · rw [if_pos z]; rfl
        · rw [if_neg z]
          rcases hb with hb | hb
          · exact absurd hb z
          · rw [if_neg (Int32.not_lt.mpr hb)]; rfl
      · have mbf : zBt b 0 (nI (aCq A m h + aNq A m h) - 1) = false := by
          cases y : zBt b 0 (nI (aCq A m h + aNq A m h) - 1) with
          | false => rfl
          | true =>
            exfalso
            obtain ⟨y1, y2⟩ := zBt_t y
            rcases hb with hb | hb
            · exact y1 hb
            · obtain ⟨j, hj, rfl⟩ := nI_of y1
              have hb2 := (nI_leI (by omega) hj).mp hb
              apply y2
              rcases Nat.eq_zero_or_pos (aCq A m h + aNq A m h) with z | z
              · rw [z]
                rw [Int32.lt_iff_toInt_lt, nI_toInt hj]
                have : (nI 0 - 1).toInt = -1 := by decide
                omega
              · rw [show nI (aCq A m h + aNq A m h) - 1 = nI (aCq A m h + aNq A m h - 1) from pk_sub (b := 1) (by omega)]
                exact nI_lt (by omega) hj
        rw [F_Model_entry, m_isHouse1 (hs.t8 0) hZ hh, Option.bind_some, if_neg (by decide), ment _ (hs.t8 0), Option.bind_some, m_in0 mbf, Option.bind_some, if_pos rfl]
        rfl
  · refine zRI.no (k := 1) J hM ?_ (by decide) (fun s hs _ => ?_)
    · simp only [F_Law_entry, F_Waves_entry, x_h0 hC ha, Option.bind_some, bd2, F_Model_fail, z10, z20, z00, if_true, if_false, eq_self, zs_AI, zs_SA]
    · simp only [F_Model_entry, m_isHouse0 (hs.t8 0) hZ ha, Option.bind_some, bd2, F_Model_fail, z10, z20, z00, if_true, if_false, eq_self, zs_AI, zs_SA]
end JE
