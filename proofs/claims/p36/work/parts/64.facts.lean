set_option maxRecDepth 100000 in
theorem zq48 : (Cond.instantiable "VillageWavesLaw" 3 : Cond) ∈ zGW := zgw 48 (by rfl) (by rfl)
theorem n_stat {args : Array Value} {s : State} {f : String} {bs : List Int32} {A : Nat → Prop} (hb : bs.length = 5) (hl : (Cond.laysStatic "VillageWaves" f "[I").before args s = true) (hini : (Cond.initialized "VillageWaves").before args s = true) (har : (Cond.arrayOf (.static "VillageWaves" f "[I") .int).before args s = true) (hle : (Cond.eq (.length (.static "VillageWaves" f "[I")) (.int 5)).before args s = true) (hel : ∀ j : Nat, j < 5 → (Cond.eq (.elem (.static "VillageWaves" f "[I") (.int (Int32.ofNat j))) (.int (bs.getD j 0))).before args s = true) (hA : ∀ a : Nat, a < s.heap.size → ¬ A a) :
    ∃ t : Nat, va_Z "VillageWaves" f "[I" (.ref t) A s s.heap ∧ va_T .int t 5 (fun j => .int (bs.getD j 0)) A s s.heap := by
  obtain ⟨t, ht, hT⟩ := va_Tof (f := fun j => .int (bs.getD j 0)) (A := A) (N := 5) (by decide) har (va_eqt hle) (fun j hj => va_eqt (hel j hj)) hA
  exact ⟨t, va_Zref hl hini ht hA, hT⟩
theorem n_sref {args : Array Value} {s : State} {own : String} {k : Nat} (hex : (Cond.exactly (.string own k) "java/lang/String").before args s = true) : ∃ a : Nat, (Term.string own k).eval args s none [] s = some (.ref a) := by
  obtain ⟨a, c, cA, kA, q1, -⟩ := Cond.exactly_spec (args := args) (first := s) (o := none) (s := s) (idx := []) (t := .string own k) (cls := "java/lang/String") hex
  exact ⟨a, q1⟩
section NF
variable {args : Array Value} {s : State} {A : Nat → Prop}
theorem n_stats (hs : ∀ w ∈ flatC (Jvm.Cond.and given_1 narrow_1), w.before args s = true) (ht : ∀ w ∈ lw_tbl, w.before args s = true) (hA : ∀ a : Nat, a < s.heap.size → ¬ A a) : ∀ i, i < 3 → ∃ t : Nat, va_Z "VillageWaves" (zfn i) "[I" (.ref t) A s s.heap ∧ va_T .int t 5 (fun j => .int ((zfv i).getD j 0)) A s s.heap := by
  intro i hi
  rcases (show i = 0 ∨ i = 1 ∨ i = 2 by omega) with rfl | rfl | rfl
  · exact n_stat (f := "FIRST_VALUES") (bs := [5, 1, 40, 10, 11]) rfl (ht _ (by decide +kernel)) (ht _ (by decide +kernel)) (hs _ (by decide +kernel)) (hs _ (by decide +kernel)) (fun j hj => by
      rcases (show j = 0 ∨ j = 1 ∨ j = 2 ∨ j = 3 ∨ j = 4 by omega) with rfl | rfl | rfl | rfl | rfl <;> exact hs _ (by decide +kernel)) hA
  · exact n_stat (f := "LEAST_VALUES") (bs := [1, 0, 0, 1, 0]) rfl (ht _ (by decide +kernel)) (ht _ (by decide +kernel)) (hs _ (by decide +kernel)) (hs _ (by decide +kernel)) (fun j hj => by
      rcases (show j = 0 ∨ j = 1 ∨ j = 2 ∨ j = 3 ∨ j = 4 by omega) with rfl | rfl | rfl | rfl | rfl <;> exact hs _ (by decide +kernel)) hA
  · exact n_stat (f := "MOST_VALUES") (bs := [50, 20, 200, 99, 11]) rfl (ht _ (by decide +kernel)) (ht _ (by decide +kernel)) (hs _ (by decide +kernel)) (hs _ (by decide +kernel)) (fun j hj => by
      rcases (show j = 0 ∨ j = 1 ∨ j = 2 ∨ j = 3 ∨ j = 4 by omega) with rfl | rfl | rfl | rfl | rfl <;> exact hs _ (by decide +kernel)) hA
theorem n_srefs (hs : ∀ w ∈ flatC (Jvm.Cond.and given_1 narrow_1), w.before args s = true) : ∀ i, i < 8 → ∃ a : Nat, (Term.string (zs1 i) (zs2 i)).eval args s none [] s = some (.ref a) := by
  intro i hi
  rcases (show i = 0 ∨ i = 1 ∨ i = 2 ∨ i = 3 ∨ i = 4 ∨ i = 5 ∨ i = 6 ∨ i = 7 by omega) with rfl | rfl | rfl | rfl | rfl | rfl | rfl | rfl
  · exact n_sref (own := "VillageWaves") (k := 349) (hs _ (by decide +kernel))
  · exact n_sref (own := "VillageWaves") (k := 87) (hs _ (by decide +kernel))
  · exact n_sref (own := "VillageWaves") (k := 345) (hs _ (by decide +kernel))
  · exact n_sref (own := "VillageWaves") (k := 101) (hs _ (by decide +kernel))
  · exact n_sref (own := "VillageWaves") (k := 347) (hs _ (by decide +kernel))
  · exact n_sref (own := "VillageWaves") (k := 280) (hs _ (by decide +kernel))
  · exact n_sref (own := "VillageWaves") (k := 224) (hs _ (by decide +kernel))
  · exact n_sref (own := "VillageWaves") (k := 343) (hs _ (by decide +kernel))
theorem n_swords (ht : ∀ w ∈ lw_tbl, w.before args s = true) : ∀ i, i < 8 → (Cond.stringRef (zs1 i) (zs2 i) (zs3 i)).before args s = true := by
  intro i hi
  rcases (show i = 0 ∨ i = 1 ∨ i = 2 ∨ i = 3 ∨ i = 4 ∨ i = 5 ∨ i = 6 ∨ i = 7 by omega) with rfl | rfl | rfl | rfl | rfl | rfl | rfl | rfl <;> exact ht _ (by decide +kernel)
/-- the static facts, with their addresses; the script at its address b -/
theorem n_SF {b L : Nat} {xs : Nat → Int32} (hX : va_X b L xs s s.heap) (hbl : b < s.heap.size) (hs : ∀ w ∈ flatC (Jvm.Cond.and given_1 narrow_1), w.before args s = true) (ht : ∀ w ∈ lw_tbl, w.before args s = true) : ∃ sa : Nat → Nat, sa 3 = b ∧ ∀ (G : zLA) (A : Nat → Prop), zsa G = sa → zLn G = L → zxs G = xs → (∀ a : Nat, a < s.heap.size → ¬ A a) → zSF G A s s.heap := by
  have h1 : ∀ i : Nat, ∃ t : Nat, i < 3 → va_Z "VillageWaves" (zfn i) "[I" (.ref t) (fun a => s.heap.size ≤ a) s s.heap ∧ va_T .int t 5 (fun j => .int ((zfv i).getD j 0)) (fun a => s.heap.size ≤ a) s s.heap := by
    intro i
    by_cases h : i < 3
    · obtain ⟨t, ht⟩ := n_stats hs ht (A := fun a => s.heap.size ≤ a) (fun a h => Nat.not_le.mpr h) i h
      exact ⟨t, fun _ => ht⟩
    · exact ⟨0, fun h2 => absurd h2 h⟩
  have h3 : ∀ i : Nat, ∃ a : Nat, i < 8 → (Term.string (zs1 i) (zs2 i)).eval args s none [] s = some (.ref a) := by
    intro i
    by_cases h : i < 8
    · obtain ⟨t, ht⟩ := n_srefs hs i h
      exact ⟨t, fun _ => ht⟩
    · exact ⟨0, fun h2 => absurd h2 h⟩
  obtain ⟨f1, h1⟩ := Classical.axiomOfChoice h1
  obtain ⟨f3, h3⟩ := Classical.axiomOfChoice h3
  refine ⟨fun i => if i < 3 then f1 i else if i = 3 then b else f3 (i - 10), rfl, fun G A hG hL hxs hA => ?_⟩
  have g1 : ∀ i, i < 3 → zsa G i = f1 i := fun i hi => by rw [hG]; exact if_pos hi
  have g2 : zsa G 3 = b := by rw [hG]; rfl
  have g3 : ∀ i, i < 8 → zsa G (10 + i) = f3 i := fun i hi => by
    rw [hG]; show (if 10 + i < 3 then _ else if 10 + i = 3 then _ else _) = _
    rw [if_neg (by omega), if_neg (by omega), Nat.add_sub_cancel_left]
  have zz : ∀ {C n d : String} {v : Value}, va_Z C n d v (fun a => s.heap.size ≤ a) s s.heap → va_Z C n d v A s s.heap := fun h => by
    obtain ⟨cf, kf, fi, f, a, cell, e1, e2, e3, e4, e5, e6, e7, e8⟩ := h
    exact ⟨cf, kf, fi, f, a, cell, e1, e2, e3, e4, e5, e6, e7, hA a (Nat.not_le.mp e8)⟩
  have tt : ∀ {ty : FieldType} {t N : Nat} {f : Nat → Value}, va_T ty t N f (fun a => s.heap.size ≤ a) s s.heap → va_T ty t N f A s s.heap := fun h => by
    obtain ⟨cell, e1, e2, e3, e4, e5, e6, e7⟩ := h
    exact ⟨cell, e1, e2, e3, e4, e5, e6, hA _ (Nat.not_le.mp e7)⟩
  refine ⟨fun i hi => ?_, ?_, fun i hi => ?_, ?_, ?_⟩
  · rw [g1 i hi]
    exact ⟨zz (h1 i hi).1, tt (h1 i hi).2⟩
  · rw [g2, hL, hxs]
    obtain ⟨cell, e1, e2, e3, e4, e5⟩ := hX
    exact ⟨cell, e1, e2, e3, Nat.le_of_eq e4.symm, by rw [e4] <;> rfl, e5, hA b hbl⟩
  · rw [g3 i hi]
    exact vk_R.of (A := args) (n_swords ht i hi) (h3 i hi)
  · exact vx_Zqof (args := args) (ht _ (by decide +kernel)) (ht _ (by decide +kernel)) (hs _ (by decide +kernel)) hA
  · exact vx_Zqof (args := args) (ht _ (by decide +kernel)) (ht _ (by decide +kernel)) (hs _ (by decide +kernel)) hA
theorem n_arr {ty : FieldType} (hp : ∀ C, ty ≠ .object C) (h : (Cond.arrayClass ty).before args s = true) : ∃ cA : ClassId, ArrOfT s cA ty ∧ va_RA s cA ty := by
  obtain ⟨c, k, comp, h1, h2, h3⟩ := Cond.arrayClass_spec h
  refine ⟨c, fun n z => ⟨fun k h => (by cases h), k, h2, comp, h3⟩, ?_⟩
  cases ty with
  | object C => exact absurd rfl (hp C)
  | _ => exact h1
/-- the classes, the array class -/
theorem n_K (ht : ∀ w ∈ zGW, w.before args s = true) : ∃ (dC : Nat → ClassId) (dI : Nat → Nat → Nat) (aC : Nat → ClassId), va_K (dC, dI) zcl [(aC 0, .int)] s := by
  obtain ⟨c0, i0, k0⟩ := u_known (C := "VillageWaves$Entries") (T := zT0) (N := 2) (n := 2) ht zin_0 (ht _ zq197)
  obtain ⟨c1, i1, k1⟩ := u_known (C := "VillageWaves$Homes") (T := zT1) (N := 11) (n := 11) ht zin_1 (ht _ zq82)
  obtain ⟨c2, i2, k2⟩ := u_known (C := "VillageWaves$Journal") (T := zT2) (N := 2) (n := 2) ht zin_2 (ht _ zq213)
  obtain ⟨c3, i3, k3⟩ := u_known (C := "VillageWaves$Reader") (T := zT3) (N := 3) (n := 3) ht zin_3 (ht _ zq317)
  obtain ⟨c4, i4, k4⟩ := u_known (C := "VillageWaves$Row") (T := zT4) (N := 1) (n := 1) ht zin_4 (ht _ zq68)
  obtain ⟨c5, i5, k5⟩ := u_known (C := "VillageWaves$Text") (T := zT5) (N := 6) (n := 6) ht zin_5 (ht _ zq323)
  obtain ⟨c6, i6, k6⟩ := u_known (C := "VillageWaves$Tidings") (T := zT6) (N := 10) (n := 10) ht zin_6 (ht _ zq141)
  obtain ⟨c7, i7, k7⟩ := u_known (C := "VillageWaves$Village") (T := zT7) (N := 13) (n := 13) ht zin_7 (ht _ zq62)
  obtain ⟨c8, i8, k8⟩ := u_known (C := "VillageWaves") (T := zT8) (N := 6) (n := 6) ht zin_8 (ht _ zq56)
  obtain ⟨c9, i9, k9⟩ := u_known (C := "VillageWavesLaw") (T := zT9) (N := 3) (n := 3) ht zin_9 (ht _ zq48)
  obtain ⟨a0, ha0⟩ := n_arr (args := args) (ty := .int) (fun C h => by cases h) (ht _ zq80)
  refine ⟨fun k => ([c0, c1, c2, c3, c4, c5, c6, c7, c8, c9] : List ClassId).getD k c0, fun k => ([i0, i1, i2, i3, i4, i5, i6, i7, i8, i9] : List (Nat → Nat)).getD k i0, fun _ => a0, ⟨fun k q hq => ?_, fun k q hq => ?_⟩⟩
  · match k, hq with
    | 0, hq => cases hq; exact k0
    | 1, hq => cases hq; exact k1
    | 2, hq => cases hq; exact k2
    | 3, hq => cases hq; exact k3
    | 4, hq => cases hq; exact k4
    | 5, hq => cases hq; exact k5
    | 6, hq => cases hq; exact k6
    | 7, hq => cases hq; exact k7
    | 8, hq => cases hq; exact k8
    | 9, hq => cases hq; exact k9
    | k + 10, hq => simp [zcl] at hq
  · match k, hq with
    | 0, hq => cases hq; exact ha0
    | k + 1, hq => simp at hq
end NF
