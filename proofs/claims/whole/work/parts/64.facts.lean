theorem zq119 : (Cond.instantiable "VillageWaves" 6 : Cond) ∈ zGW := zgw 119 (by decide +kernel) (by decide +kernel)
theorem zq1258 : (Cond.instantiable "VillageWavesModel" 24 : Cond) ∈ zGW := zgw 1258 (by decide +kernel) (by decide +kernel)
theorem zq1769 : (Cond.arrayClass .long : Cond) ∈ zGW := zgw 1769 (by decide +kernel) (by decide +kernel)
theorem zq1770 : (Cond.arrayClass .double : Cond) ∈ zGW := zgw 1770 (by decide +kernel) (by decide +kernel)
theorem n_str {args : Array Value} {s : State} {own : String} {k : Nat} {bs : List Int32} {A : Nat → Prop} (hN : bs.length < 2 ^ 31) (hex : (Cond.exactly (.string own k) "java/lang/String").before args s = true) (hco : (Cond.eq (.field (.string own k) "java/lang/String" "coder" "B") (.int 0)).before args s = true) (har : (Cond.arrayOf (.field (.string own k) "java/lang/String" "value" "[B") .byte).before args s = true) (hle : (Cond.eq (.length (.field (.string own k) "java/lang/String" "value" "[B")) (.int (Int32.ofNat bs.length))).before args s = true) (hel : ∀ j : Nat, j < bs.length → (Cond.eq (.elem (.field (.string own k) "java/lang/String" "value" "[B") (.int (Int32.ofNat j))) (.int (bs.getD j 0))).before args s = true) (hA : ∀ a : Nat, a < s.heap.size → ¬ A a) :
    ∃ q : Nat × Nat, (Term.string own k).eval args s none [] s = some (.ref q.1) ∧ va_O "java/lang/String" q.1 A s s.heap ∧ va_OF "java/lang/String" "coder" "B" (.int 0) q.1 A s s.heap ∧ va_OF "java/lang/String" "value" "[B" (.ref q.2) q.1 A s s.heap ∧ va_T .byte q.2 bs.length (fun j => .int (bs.getD j 0)) A s s.heap := by
  obtain ⟨a, c, cA, kA, q1, q2, q3, q4, q5, q6, -⟩ := Cond.exactly_spec (args := args) (first := s) (o := none) (s := s) (idx := []) (t := .string own k) (cls := "java/lang/String") hex
  obtain ⟨t, ht, hT⟩ := va_Tof (f := fun j => .int (bs.getD j 0)) (A := A) hN har (va_eqt hle) (fun j hj => va_eqt (hel j hj)) hA
  exact ⟨(a, t), q1, ⟨cA, q3, q5, by rw [q6]; exact q2, hA a (Array.getElem?_eq_some_iff.mp q3).1⟩, vk_OFof q1 (va_eqt hco) hA, vk_OFof q1 ht hA, hT⟩
theorem n_stat {args : Array Value} {s : State} {f : String} {bs : List Int32} {A : Nat → Prop} (hb : bs.length = 5) (hl : (Cond.laysStatic "VillageWaves" f "[I").before args s = true) (hini : (Cond.initialized "VillageWaves").before args s = true) (har : (Cond.arrayOf (.static "VillageWaves" f "[I") .int).before args s = true) (hle : (Cond.eq (.length (.static "VillageWaves" f "[I")) (.int 5)).before args s = true) (hel : ∀ j : Nat, j < 5 → (Cond.eq (.elem (.static "VillageWaves" f "[I") (.int (Int32.ofNat j))) (.int (bs.getD j 0))).before args s = true) (hA : ∀ a : Nat, a < s.heap.size → ¬ A a) :
    ∃ t : Nat, va_Z "VillageWaves" f "[I" (.ref t) A s s.heap ∧ va_T .int t 5 (fun j => .int (bs.getD j 0)) A s s.heap := by
  obtain ⟨t, ht, hT⟩ := va_Tof (f := fun j => .int (bs.getD j 0)) (A := A) (N := 5) (by decide) har (va_eqt hle) (fun j hj => va_eqt (hel j hj)) hA
  exact ⟨t, va_Zref hl hini ht hA, hT⟩
theorem n_sref {args : Array Value} {s : State} {own : String} {k : Nat} (hex : (Cond.exactly (.string own k) "java/lang/String").before args s = true) : ∃ a : Nat, (Term.string own k).eval args s none [] s = some (.ref a) := by
  obtain ⟨a, c, cA, kA, q1, -⟩ := Cond.exactly_spec (args := args) (first := s) (o := none) (s := s) (idx := []) (t := .string own k) (cls := "java/lang/String") hex
  exact ⟨a, q1⟩
section NF
variable {args : Array Value} {s : State} {A : Nat → Prop}
theorem n_stats (hs : ∀ w ∈ flatC (Jvm.Cond.and given_1 narrow_1), w.before args s = true) (ht : ∀ w ∈ lw_tbl, w.before args s = true) (hA : ∀ a : Nat, a < s.heap.size → ¬ A a) : ∀ i, i < 3 → ∃ t : Nat, va_Z "VillageWaves" (zfn i) "[I" (.ref t) A s s.heap ∧ va_T .int t 5 (fun j => .int ((zfv i).getD j 0)) A s s.heap := by
  intro i hi
  rcases (show i = 0 ∨ i = 1 ∨ i = 2 by omega) with rfl | rfl | rfl
  · exact n_stat (f := "FIRST_VALUES") (bs := [5, 1, 40, 10, 11]) rfl (ht _ (by decide +kernel)) (ht _ (by decide +kernel)) (hs _ (by decide +kernel)) (hs _ (by decide +kernel)) (fun j hj => by
      rcases (show j = 0 ∨ j = 1 ∨ j = 2 ∨ j = 3 ∨ j = 4 by omega) with rfl | rfl | rfl | rfl | rfl <;> exact hs _ (by decide +kernel)) hA
  · exact n_stat (f := "LEAST_VALUES") (bs := [1, 0, 0, 1, 0]) rfl (ht _ (by decide +kernel)) (ht _ (by decide +kernel)) (hs _ (by decide +kernel)) (hs _ (by decide +kernel)) (fun j hj => by
      rcases (show j = 0 ∨ j = 1 ∨ j = 2 ∨ j = 3 ∨ j = 4 by omega) with rfl | rfl | rfl | rfl | rfl <;> exact hs _ (by decide +kernel)) hA
  · exact n_stat (f := "MOST_VALUES") (bs := [50, 20, 200, 99, 11]) rfl (ht _ (by decide +kernel)) (ht _ (by decide +kernel)) (hs _ (by decide +kernel)) (hs _ (by decide +kernel)) (fun j hj => by
      rcases (show j = 0 ∨ j = 1 ∨ j = 2 ∨ j = 3 ∨ j = 4 by omega) with rfl | rfl | rfl | rfl | rfl <;> exact hs _ (by decide +kernel)) hA
set_option maxHeartbeats 4000000 in
theorem n_strs (hs : ∀ w ∈ flatC (Jvm.Cond.and given_1 narrow_1), w.before args s = true) (hA : ∀ a : Nat, a < s.heap.size → ¬ A a) : ∀ i, i < 12 → ∃ q : Nat × Nat, (Term.string (zs1 i) (zs2 i)).eval args s none [] s = some (.ref q.1) ∧ va_O "java/lang/String" q.1 A s s.heap ∧ va_OF "java/lang/String" "coder" "B" (.int 0) q.1 A s s.heap ∧ va_OF "java/lang/String" "value" "[B" (.ref q.2) q.1 A s s.heap ∧ va_T .byte q.2 (zsb i).length (fun j => .int ((zsb i).getD j 0)) A s s.heap := by
  intro i hi
  rcases (show i = 0 ∨ i = 1 ∨ i = 2 ∨ i = 3 ∨ i = 4 ∨ i = 5 ∨ i = 6 ∨ i = 7 ∨ i = 8 ∨ i = 9 ∨ i = 10 ∨ i = 11 by omega) with rfl | rfl | rfl | rfl | rfl | rfl | rfl | rfl | rfl | rfl | rfl | rfl
  · exact n_str (own := "VillageWaves$Reader") (k := 33) (bs := [100, 97, 121]) (by decide) (hs _ (by decide +kernel)) (hs _ (by decide +kernel)) (hs _ (by decide +kernel)) (hs _ (by decide +kernel)) (fun j hj => by
      have hj : j < 3 := hj
      rcases (show j = 0 ∨ j = 1 ∨ j = 2 by omega) with rfl | rfl | rfl <;> exact hs _ (by decide +kernel)) hA
  · exact n_str (own := "VillageWaves$Reader") (k := 54) (bs := [104, 111, 117, 115, 101]) (by decide) (hs _ (by decide +kernel)) (hs _ (by decide +kernel)) (hs _ (by decide +kernel)) (hs _ (by decide +kernel)) (fun j hj => by
      have hj : j < 5 := hj
      rcases (show j = 0 ∨ j = 1 ∨ j = 2 ∨ j = 3 ∨ j = 4 by omega) with rfl | rfl | rfl | rfl | rfl <;> exact hs _ (by decide +kernel)) hA
  · exact n_str (own := "VillageWaves$Reader") (k := 94) (bs := [113, 117, 105, 101, 116]) (by decide) (hs _ (by decide +kernel)) (hs _ (by decide +kernel)) (hs _ (by decide +kernel)) (hs _ (by decide +kernel)) (fun j hj => by
      have hj : j < 5 := hj
      rcases (show j = 0 ∨ j = 1 ∨ j = 2 ∨ j = 3 ∨ j = 4 by omega) with rfl | rfl | rfl | rfl | rfl <;> exact hs _ (by decide +kernel)) hA
  · exact n_str (own := "VillageWaves$Reader") (k := 60) (bs := [115, 101, 116]) (by decide) (hs _ (by decide +kernel)) (hs _ (by decide +kernel)) (hs _ (by decide +kernel)) (hs _ (by decide +kernel)) (fun j hj => by
      have hj : j < 3 := hj
      rcases (show j = 0 ∨ j = 1 ∨ j = 2 by omega) with rfl | rfl | rfl <;> exact hs _ (by decide +kernel)) hA
  · exact n_str (own := "VillageWaves$Reader") (k := 65) (bs := [115, 101, 101, 100]) (by decide) (hs _ (by decide +kernel)) (hs _ (by decide +kernel)) (hs _ (by decide +kernel)) (hs _ (by decide +kernel)) (fun j hj => by
      have hj : j < 4 := hj
      rcases (show j = 0 ∨ j = 1 ∨ j = 2 ∨ j = 3 by omega) with rfl | rfl | rfl | rfl <;> exact hs _ (by decide +kernel)) hA
  · exact n_str (own := "VillageWaves$Reader") (k := 71) (bs := [110, 101, 119, 115]) (by decide) (hs _ (by decide +kernel)) (hs _ (by decide +kernel)) (hs _ (by decide +kernel)) (hs _ (by decide +kernel)) (fun j hj => by
      have hj : j < 4 := hj
      rcases (show j = 0 ∨ j = 1 ∨ j = 2 ∨ j = 3 by omega) with rfl | rfl | rfl | rfl <;> exact hs _ (by decide +kernel)) hA
  · exact n_str (own := "VillageWavesModel") (k := 175) (bs := [100, 97, 121]) (by decide) (hs _ (by decide +kernel)) (hs _ (by decide +kernel)) (hs _ (by decide +kernel)) (hs _ (by decide +kernel)) (fun j hj => by
      have hj : j < 3 := hj
      rcases (show j = 0 ∨ j = 1 ∨ j = 2 by omega) with rfl | rfl | rfl <;> exact hs _ (by decide +kernel)) hA
  · exact n_str (own := "VillageWavesModel") (k := 150) (bs := [104, 111, 117, 115, 101]) (by decide) (hs _ (by decide +kernel)) (hs _ (by decide +kernel)) (hs _ (by decide +kernel)) (hs _ (by decide +kernel)) (fun j hj => by
      have hj : j < 5 := hj
      rcases (show j = 0 ∨ j = 1 ∨ j = 2 ∨ j = 3 ∨ j = 4 by omega) with rfl | rfl | rfl | rfl | rfl <;> exact hs _ (by decide +kernel)) hA
  · exact n_str (own := "VillageWavesModel") (k := 130) (bs := [113, 117, 105, 101, 116]) (by decide) (hs _ (by decide +kernel)) (hs _ (by decide +kernel)) (hs _ (by decide +kernel)) (hs _ (by decide +kernel)) (fun j hj => by
      have hj : j < 5 := hj
      rcases (show j = 0 ∨ j = 1 ∨ j = 2 ∨ j = 3 ∨ j = 4 by omega) with rfl | rfl | rfl | rfl | rfl <;> exact hs _ (by decide +kernel)) hA
  · exact n_str (own := "VillageWavesModel") (k := 155) (bs := [115, 101, 116]) (by decide) (hs _ (by decide +kernel)) (hs _ (by decide +kernel)) (hs _ (by decide +kernel)) (hs _ (by decide +kernel)) (fun j hj => by
      have hj : j < 3 := hj
      rcases (show j = 0 ∨ j = 1 ∨ j = 2 by omega) with rfl | rfl | rfl <;> exact hs _ (by decide +kernel)) hA
  · exact n_str (own := "VillageWavesModel") (k := 160) (bs := [115, 101, 101, 100]) (by decide) (hs _ (by decide +kernel)) (hs _ (by decide +kernel)) (hs _ (by decide +kernel)) (hs _ (by decide +kernel)) (fun j hj => by
      have hj : j < 4 := hj
      rcases (show j = 0 ∨ j = 1 ∨ j = 2 ∨ j = 3 by omega) with rfl | rfl | rfl | rfl <;> exact hs _ (by decide +kernel)) hA
  · exact n_str (own := "VillageWavesModel") (k := 145) (bs := [110, 101, 119, 115]) (by decide) (hs _ (by decide +kernel)) (hs _ (by decide +kernel)) (hs _ (by decide +kernel)) (hs _ (by decide +kernel)) (fun j hj => by
      have hj : j < 4 := hj
      rcases (show j = 0 ∨ j = 1 ∨ j = 2 ∨ j = 3 by omega) with rfl | rfl | rfl | rfl <;> exact hs _ (by decide +kernel)) hA
theorem n_srefs (hs : ∀ w ∈ flatC (Jvm.Cond.and given_1 narrow_1), w.before args s = true) : ∀ i, 12 ≤ i → i < 21 → ∃ a : Nat, (Term.string (zs1 i) (zs2 i)).eval args s none [] s = some (.ref a) := by
  intro i h0 hi
  rcases (show i = 12 ∨ i = 13 ∨ i = 14 ∨ i = 15 ∨ i = 16 ∨ i = 17 ∨ i = 18 ∨ i = 19 ∨ i = 20 by omega) with rfl | rfl | rfl | rfl | rfl | rfl | rfl | rfl | rfl
  · exact n_sref (own := "VillageWaves") (k := 47) (hs _ (by decide +kernel))
  · exact n_sref (own := "VillageWaves") (k := 349) (hs _ (by decide +kernel))
  · exact n_sref (own := "VillageWaves") (k := 87) (hs _ (by decide +kernel))
  · exact n_sref (own := "VillageWaves") (k := 345) (hs _ (by decide +kernel))
  · exact n_sref (own := "VillageWaves") (k := 101) (hs _ (by decide +kernel))
  · exact n_sref (own := "VillageWaves") (k := 224) (hs _ (by decide +kernel))
  · exact n_sref (own := "VillageWaves") (k := 347) (hs _ (by decide +kernel))
  · exact n_sref (own := "VillageWaves") (k := 280) (hs _ (by decide +kernel))
  · exact n_sref (own := "VillageWaves") (k := 343) (hs _ (by decide +kernel))
theorem n_swords (ht : ∀ w ∈ lw_tbl, w.before args s = true) : ∀ i, i < 21 → (Cond.stringRef (zs1 i) (zs2 i) (zs3 i)).before args s = true := by
  intro i hi
  rcases (show i = 0 ∨ i = 1 ∨ i = 2 ∨ i = 3 ∨ i = 4 ∨ i = 5 ∨ i = 6 ∨ i = 7 ∨ i = 8 ∨ i = 9 ∨ i = 10 ∨ i = 11 ∨ i = 12 ∨ i = 13 ∨ i = 14 ∨ i = 15 ∨ i = 16 ∨ i = 17 ∨ i = 18 ∨ i = 19 ∨ i = 20 by omega) with rfl | rfl | rfl | rfl | rfl | rfl | rfl | rfl | rfl | rfl | rfl | rfl | rfl | rfl | rfl | rfl | rfl | rfl | rfl | rfl | rfl <;> exact ht _ (by decide +kernel)
/-- the static facts, with their addresses -/
theorem n_SF (hs : ∀ w ∈ flatC (Jvm.Cond.and given_1 narrow_1), w.before args s = true) (ht : ∀ w ∈ lw_tbl, w.before args s = true) : ∃ sa : Nat → Nat, ∀ (G : zLA) (A : Nat → Prop), zsa G = sa → (∀ a : Nat, a < s.heap.size → ¬ A a) → zSF G A s s.heap := by
  have h1 : ∀ i : Nat, ∃ t : Nat, i < 3 → va_Z "VillageWaves" (zfn i) "[I" (.ref t) (fun a => s.heap.size ≤ a) s s.heap ∧ va_T .int t 5 (fun j => .int ((zfv i).getD j 0)) (fun a => s.heap.size ≤ a) s s.heap := by
    intro i
    by_cases h : i < 3
    · obtain ⟨t, ht⟩ := n_stats hs ht (A := fun a => s.heap.size ≤ a) (fun a h => Nat.not_le.mpr h) i h
      exact ⟨t, fun _ => ht⟩
    · exact ⟨0, fun h2 => absurd h2 h⟩
  have h2 : ∀ i : Nat, ∃ q : Nat × Nat, i < 12 → (Term.string (zs1 i) (zs2 i)).eval args s none [] s = some (.ref q.1) ∧ va_O "java/lang/String" q.1 (fun a => s.heap.size ≤ a) s s.heap ∧ va_OF "java/lang/String" "coder" "B" (.int 0) q.1 (fun a => s.heap.size ≤ a) s s.heap ∧ va_OF "java/lang/String" "value" "[B" (.ref q.2) q.1 (fun a => s.heap.size ≤ a) s s.heap ∧ va_T .byte q.2 (zsb i).length (fun j => .int ((zsb i).getD j 0)) (fun a => s.heap.size ≤ a) s s.heap := by
    intro i
    by_cases h : i < 12
    · obtain ⟨t, ht⟩ := n_strs hs (A := fun a => s.heap.size ≤ a) (fun a h => Nat.not_le.mpr h) i h
      exact ⟨t, fun _ => ht⟩
    · exact ⟨(0, 0), fun h2 => absurd h2 h⟩
  have h3 : ∀ i : Nat, ∃ a : Nat, 12 ≤ i → i < 21 → (Term.string (zs1 i) (zs2 i)).eval args s none [] s = some (.ref a) := by
    intro i
    by_cases h : 12 ≤ i ∧ i < 21
    · obtain ⟨t, ht⟩ := n_srefs hs i h.1 h.2
      exact ⟨t, fun _ _ => ht⟩
    · exact ⟨0, fun h2 h3 => absurd ⟨h2, h3⟩ h⟩
  obtain ⟨f1, h1⟩ := Classical.axiomOfChoice h1
  obtain ⟨f2, h2⟩ := Classical.axiomOfChoice h2
  obtain ⟨f3, h3⟩ := Classical.axiomOfChoice h3
  refine ⟨fun i => if i < 10 then f1 i else if i < 22 then (f2 (i - 10)).1 else if i < 40 then f3 (i - 10) else (f2 (i - 40)).2, fun G A hG hA => ?_⟩
  have g1 : ∀ i, i < 3 → zsa G i = f1 i := fun i hi => by rw [hG]; exact if_pos (by omega)
  have g2 : ∀ i, i < 12 → zsa G (10 + i) = (f2 i).1 := fun i hi => by
    rw [hG]; show (if 10 + i < 10 then _ else if 10 + i < 22 then _ else _) = _
    rw [if_neg (by omega), if_pos (by omega), Nat.add_sub_cancel_left]
  have g3 : ∀ i, 12 ≤ i → i < 21 → zsa G (10 + i) = f3 i := fun i h0 hi => by
    rw [hG]; show (if 10 + i < 10 then _ else if 10 + i < 22 then _ else if 10 + i < 40 then _ else _) = _
    rw [if_neg (by omega), if_neg (by omega), if_pos (by omega), Nat.add_sub_cancel_left]
  have g4 : ∀ i, i < 12 → zsa G (40 + i) = (f2 i).2 := fun i hi => by
    rw [hG]; show (if 40 + i < 10 then _ else if 40 + i < 22 then _ else if 40 + i < 40 then _ else _) = _
    rw [if_neg (by omega), if_neg (by omega), if_neg (by omega), Nat.add_sub_cancel_left]
  have hBA : ∀ (B : Nat → Prop) (a : Nat), (¬ s.heap.size ≤ a) → (∀ a : Nat, a < s.heap.size → ¬ B a) → ¬ B a := fun B a h h2 => h2 a (Nat.not_le.mp h)
  have zz : ∀ {C n d : String} {v : Value}, va_Z C n d v (fun a => s.heap.size ≤ a) s s.heap → va_Z C n d v A s s.heap := fun h => by
    obtain ⟨cf, kf, fi, f, a, cell, e1, e2, e3, e4, e5, e6, e7, e8⟩ := h
    exact ⟨cf, kf, fi, f, a, cell, e1, e2, e3, e4, e5, e6, e7, hA a (Nat.not_le.mp e8)⟩
  have tt : ∀ {ty : FieldType} {t N : Nat} {f : Nat → Value}, va_T ty t N f (fun a => s.heap.size ≤ a) s s.heap → va_T ty t N f A s s.heap := fun h => by
    obtain ⟨cell, e1, e2, e3, e4, e5, e6, e7⟩ := h
    exact ⟨cell, e1, e2, e3, e4, e5, e6, hA _ (Nat.not_le.mp e7)⟩
  have oo : ∀ {E : String} {t : Nat}, va_O E t (fun a => s.heap.size ≤ a) s s.heap → va_O E t A s s.heap := fun h => by
    obtain ⟨cell, e1, e2, e3, e4⟩ := h
    exact ⟨cell, e1, e2, e3, hA _ (Nat.not_le.mp e4)⟩
  have ff : ∀ {C n d : String} {v : Value} {t : Nat}, va_OF C n d v t (fun a => s.heap.size ≤ a) s s.heap → va_OF C n d v t A s s.heap := fun h => by
    obtain ⟨cf, k, i, f, cell, e1, e2, e3, e4, e5, e6⟩ := h
    exact ⟨cf, k, i, f, cell, e1, e2, e3, e4, e5, hA _ (Nat.not_le.mp e6)⟩
  refine ⟨fun i hi => ?_, fun i hi => ?_, fun i hi => ?_, ?_, ?_, ?_, ?_⟩
  · rw [g1 i hi]
    exact ⟨zz (h1 i hi).1, tt (h1 i hi).2⟩
  · rw [g2 i hi, g4 i hi]
    obtain ⟨-, e2, e3, e4, e5⟩ := h2 i hi
    exact ⟨oo e2, ff e3, ff e4, tt e5⟩
  · by_cases h : i < 12
    · rw [g2 i h]
      exact vk_R.of (A := args) (n_swords ht i hi) (h2 i h).1
    · rw [g3 i (Nat.not_lt.mp h) hi]
      exact vk_R.of (A := args) (n_swords ht i hi) (h3 i (Nat.not_lt.mp h) hi)
  · exact vx_Zqof (args := args) (ht _ (by decide +kernel)) (ht _ (by decide +kernel)) (hs _ (by decide +kernel)) hA
  · exact vx_Zqof (args := args) (ht _ (by decide +kernel)) (ht _ (by decide +kernel)) (hs _ (by decide +kernel)) hA
  · exact va_Zof (args := args) (ht _ (by decide +kernel)) (ht _ (by decide +kernel)) (va_eqt (hs _ (by decide +kernel))) hA
  · exact va_Zqof (args := args) (ht _ (by decide +kernel)) (ht _ (by decide +kernel)) (hs _ (by decide +kernel)) hA
theorem n_arr {ty : FieldType} (hp : ∀ C, ty ≠ .object C) (h : (Cond.arrayClass ty).before args s = true) : ∃ cA : ClassId, ArrOfT s cA ty ∧ va_RA s cA ty := by
  obtain ⟨c, k, comp, h1, h2, h3⟩ := Cond.arrayClass_spec h
  refine ⟨c, fun n z => ⟨fun k h => (by cases h), k, h2, comp, h3⟩, ?_⟩
  cases ty with
  | object C => exact absurd rfl (hp C)
  | _ => exact h1
/-- the classes, the array classes -/
theorem n_K (ht : ∀ w ∈ zGW, w.before args s = true) : ∃ (dC : Nat → ClassId) (dI : Nat → Nat → Nat) (aC : Nat → ClassId), va_K (dC, dI) zcl [(aC 0, .int), (aC 1, .boolean), (aC 2, .long), (aC 3, .double)] s := by
  obtain ⟨c0, i0, k0⟩ := u_known (C := "VillageWaves$Entries") (T := zT0) (N := 2) (n := 2) ht zin_0 (ht _ zq265)
  obtain ⟨c1, i1, k1⟩ := u_known (C := "VillageWaves$Homes") (T := zT1) (N := 11) (n := 11) ht zin_1 (ht _ zq147)
  obtain ⟨c2, i2, k2⟩ := u_known (C := "VillageWaves$Journal") (T := zT2) (N := 2) (n := 2) ht zin_2 (ht _ zq281)
  obtain ⟨c3, i3, k3⟩ := u_known (C := "VillageWaves$Reader") (T := zT3) (N := 3) (n := 3) ht zin_3 (ht _ zq390)
  obtain ⟨c4, i4, k4⟩ := u_known (C := "VillageWaves$Row") (T := zT4) (N := 1) (n := 1) ht zin_4 (ht _ zq133)
  obtain ⟨c5, i5, k5⟩ := u_known (C := "VillageWaves$Text") (T := zT5) (N := 6) (n := 6) ht zin_5 (ht _ zq396)
  obtain ⟨c6, i6, k6⟩ := u_known (C := "VillageWaves$Tidings") (T := zT6) (N := 10) (n := 10) ht zin_6 (ht _ zq209)
  obtain ⟨c7, i7, k7⟩ := u_known (C := "VillageWaves$Village") (T := zT7) (N := 13) (n := 13) ht zin_7 (ht _ zq127)
  obtain ⟨c8, i8, k8⟩ := u_known (C := "VillageWaves") (T := zT8) (N := 6) (n := 6) ht zin_8 (ht _ zq119)
  obtain ⟨c9, i9, k9⟩ := u_known (C := "VillageWavesModel") (T := zT9) (N := 24) (n := 24) ht zin_9 (ht _ zq1258)
  obtain ⟨a0, ha0⟩ := n_arr (args := args) (ty := .int) (fun C h => by cases h) (ht _ zq145)
  obtain ⟨a1, ha1⟩ := n_arr (args := args) (ty := .boolean) (fun C h => by cases h) (ht _ zq1340)
  obtain ⟨a2, ha2⟩ := n_arr (args := args) (ty := .long) (fun C h => by cases h) (ht _ zq1769)
  obtain ⟨a3, ha3⟩ := n_arr (args := args) (ty := .double) (fun C h => by cases h) (ht _ zq1770)
  refine ⟨fun k => ([c0, c1, c2, c3, c4, c5, c6, c7, c8, c9] : List ClassId).getD k c0, fun k => ([i0, i1, i2, i3, i4, i5, i6, i7, i8, i9] : List (Nat → Nat)).getD k i0, fun k => ([a0, a1, a2, a3] : List ClassId).getD k a0, ⟨fun k q hq => ?_, fun k q hq => ?_⟩⟩
  · match k, hq with
    | 0, hq => cases hq; exact k0
    | 1, hq => cases hq; exact k1
    | 2, hq => cases hq; exact k2
    | 3, hq => cases hq; exact k3
    | 4, hq => cases hq; exact k4
    | 5, hq => cases hq; exact k5
    | 6, hq => cases hq; exact k6
    | 7, hq => cases hq; exact k7
    | 8, hq => cases hq; exact k8
    | 9, hq => cases hq; exact k9
    | k + 10, hq => simp [zcl] at hq
  · match k, hq with
    | 0, hq => cases hq; exact ha0
    | 1, hq => cases hq; exact ha1
    | 2, hq => cases hq; exact ha2
    | 3, hq => cases hq; exact ha3
    | k + 4, hq => simp at hq
end NF
