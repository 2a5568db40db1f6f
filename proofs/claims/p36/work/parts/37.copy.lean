/-- how many ints a cell of a village has -/
def zl (o : Nat) : Nat := if o = 0 then 4 else if o = 3 ∨ o = 24 ∨ o = 59 then 1 else zrl o
theorem c_rowcopy {σ : zSt} {v v2 o L : Nat} (hL : zrl (o + 1) = L) (h31 : L < 2 ^ 31) : F_Row_copyFrom v o v2 o σ = some (zcp σ v (o + 1) v2 (o + 1) L) := by
  have e : Int32.ofNat L = nI L := rfl
  rw [F_Row_copyFrom, hL, e, if_neg (nI_nlt (Nat.le_refl L) h31), nI_clamp h31, if_pos ⟨nI_pos h31, Nat.le_refl L, Nat.le_refl L⟩]
theorem zcp_at (σ : zSt) (v o v2 o2 L g o' i : Nat) : (zcp σ v o v2 o2 L).1 g o' i = if g = v ∧ o' = o then va_cpy (σ.1 v2 o2) (σ.1 v o) 0 0 L i else σ.1 g o' i := by
  show (if (g, o') = (v, o) then va_cpy (σ.1 v2 o2) (σ.1 v o) 0 0 L else σ.1 g o') i = _
  by_cases h : g = v ∧ o' = o
  · rw [if_pos (by rw [h.1, h.2]), if_pos h]
  · rw [if_neg (fun q => h (Prod.mk.inj q)), if_neg h]
theorem zcpy_in {f g : Nat → Int32} {L i : Nat} (h : i < L) : va_cpy f g 0 0 L i = f i := sb_cpy0 h
/-- the cells of v up to b are copies -/
def zCo (σ : zSt) (v v2 b : Nat) (s : zSt) : Prop := (∀ o i, o ≤ b → i < zl o → s.1 v o i = σ.1 v2 o i) ∧ (∀ g o i, g ≠ v → s.1 g o i = σ.1 g o i) ∧ s.2 = σ.2
theorem zCo_row {σ s : zSt} {v v2 b o L : Nat} (hv : v2 ≠ v) (h : zCo σ v v2 b s) (hL : zrl (o + 1) = L) (h31 : L < 2 ^ 31) (hg : ∀ o', o' < 62 → b < o' → o' ≤ o → zl o' = 0) (ho : o < 61) (hb : b ≤ o) (hl : zl (o + 1) = L) : zOk (F_Row_copyFrom v o v2 o s) (zCo σ v v2 (o + 1)) := by
  refine ⟨_, c_rowcopy hL h31, fun o' i h1 h2 => ?_, fun g o' i h1 => ?_, h.2.2⟩
  · rw [zcp_at]
    by_cases q : o' = o + 1
    · subst q
      rw [if_pos ⟨rfl, rfl⟩, zcpy_in (by rw [← hl]; exact h2)]
      exact h.2.1 v2 (o + 1) i hv
    · rw [if_neg (fun z => q z.2)]
      rcases Nat.lt_or_ge b o' with z | z
      · rw [hg o' (by omega) z (by omega)] at h2
        exact absurd h2 (Nat.not_lt_zero i)
      · exact h.1 o' i z h2
  · rw [zcp_at, if_neg (fun z => h1 z.1)]
    exact h.2.1 g o' i h1
theorem zCo_one {σ s : zSt} {v v2 b o : Nat} (hv : v2 ≠ v) (h : zCo σ v v2 b s) (hg : ∀ o', o' < 62 → b < o' → o' < o → zl o' = 0) (ho : o < 62) (hb : b < o) (hl : zl o = 1) : zCo σ v v2 o (zst s v o 0 (s.1 v2 o 0)) := by
  refine ⟨fun o' i h1 h2 => ?_, fun g o' i h1 => ?_, h.2.2⟩
  · rw [zst_at]
    by_cases q : o' = o
    · subst q
      rw [hl] at h2
      have : i = 0 := by omega
      subst this
      rw [if_pos ⟨rfl, rfl, rfl⟩]
      exact h.2.1 v2 o' 0 hv
    · rw [if_neg (fun z => q z.2.1)]
      rcases Nat.lt_or_ge b o' with z | z
      · rw [hg o' (by omega) z (by omega)] at h2
        exact absurd h2 (Nat.not_lt_zero i)
      · exact h.1 o' i z h2
  · rw [zst_at, if_neg (fun z => h1 z.1)]
    exact h.2.1 g o' i h1
theorem c_homesCopy {σ s : zSt} {v v2 : Nat} (hv : v2 ≠ v) (h : zCo σ v v2 2 s) : zOk (F_Homes_copyFrom v v2 s) (zCo σ v v2 23) := by
  rw [F_Homes_copyFrom]
  have h := zCo_one (o := 3) hv h (by decide) (by decide) (by decide) rfl
  refine zOk.bind (zCo_row hv h (o := 4) (L := 12) (b := 3) rfl (by decide) (by decide) (by decide) (by decide) rfl) (fun s h => ?_)
  refine zOk.bind (zCo_row hv h (o := 6) (L := 12) (b := 5) rfl (by decide) (by decide) (by decide) (by decide) rfl) (fun s h => ?_)
  refine zOk.bind (zCo_row hv h (o := 8) (L := 12) (b := 7) rfl (by decide) (by decide) (by decide) (by decide) rfl) (fun s h => ?_)
  refine zOk.bind (zCo_row hv h (o := 10) (L := 12) (b := 9) rfl (by decide) (by decide) (by decide) (by decide) rfl) (fun s h => ?_)
  refine zOk.bind (zCo_row hv h (o := 12) (L := 12) (b := 11) rfl (by decide) (by decide) (by decide) (by decide) rfl) (fun s h => ?_)
  refine zOk.bind (zCo_row hv h (o := 14) (L := 12) (b := 13) rfl (by decide) (by decide) (by decide) (by decide) rfl) (fun s h => ?_)
  refine zOk.bind (zCo_row hv h (o := 16) (L := 12) (b := 15) rfl (by decide) (by decide) (by decide) (by decide) rfl) (fun s h => ?_)
  refine zOk.bind (zCo_row hv h (o := 18) (L := 12) (b := 17) rfl (by decide) (by decide) (by decide) (by decide) rfl) (fun s h => ?_)
  refine zOk.bind (zCo_row hv h (o := 20) (L := 12) (b := 19) rfl (by decide) (by decide) (by decide) (by decide) rfl) (fun s h => ?_)
  refine zOk.bind (zCo_row hv h (o := 22) (L := 12) (b := 21) rfl (by decide) (by decide) (by decide) (by decide) rfl) (fun s h => ?_)
  exact ⟨_, rfl, h⟩
theorem c_tidingsCopy {σ s : zSt} {v v2 : Nat} (hv : v2 ≠ v) (h : zCo σ v v2 23 s) : zOk (F_Tidings_copyFrom v v2 s) (zCo σ v v2 42) := by
  rw [F_Tidings_copyFrom]
  have h := zCo_one (o := 24) hv h (by decide) (by decide) (by decide) rfl
  refine zOk.bind (zCo_row hv h (o := 25) (L := 20) (b := 24) rfl (by decide) (by decide) (by decide) (by decide) rfl) (fun s h => ?_)
  refine zOk.bind (zCo_row hv h (o := 27) (L := 20) (b := 26) rfl (by decide) (by decide) (by decide) (by decide) rfl) (fun s h => ?_)
  refine zOk.bind (zCo_row hv h (o := 29) (L := 20) (b := 28) rfl (by decide) (by decide) (by decide) (by decide) rfl) (fun s h => ?_)
  refine zOk.bind (zCo_row hv h (o := 31) (L := 20) (b := 30) rfl (by decide) (by decide) (by decide) (by decide) rfl) (fun s h => ?_)
  refine zOk.bind (zCo_row hv h (o := 33) (L := 20) (b := 32) rfl (by decide) (by decide) (by decide) (by decide) rfl) (fun s h => ?_)
  refine zOk.bind (zCo_row hv h (o := 35) (L := 20) (b := 34) rfl (by decide) (by decide) (by decide) (by decide) rfl) (fun s h => ?_)
  refine zOk.bind (zCo_row hv h (o := 37) (L := 20) (b := 36) rfl (by decide) (by decide) (by decide) (by decide) rfl) (fun s h => ?_)
  refine zOk.bind (zCo_row hv h (o := 39) (L := 20) (b := 38) rfl (by decide) (by decide) (by decide) (by decide) rfl) (fun s h => ?_)
  refine zOk.bind (zCo_row hv h (o := 41) (L := 20) (b := 40) rfl (by decide) (by decide) (by decide) (by decide) rfl) (fun s h => ?_)
  exact ⟨_, rfl, h⟩
theorem c_entriesCopy43 {σ s : zSt} {v v2 : Nat} (hv : v2 ≠ v) (h : zCo σ v v2 42 s) : zOk (F_Entries_copyFrom v 43 v2 43 s) (zCo σ v v2 47) := by
  rw [F_Entries_copyFrom]
  refine zOk.bind (zCo_row hv h (o := 44) (L := 12) (b := 42) rfl (by decide) (by decide) (by decide) (by decide) rfl) (fun s h => ?_)
  refine zOk.bind (zCo_row hv h (o := 46) (L := 240) (b := 45) rfl (by decide) (by decide) (by decide) (by decide) rfl) (fun s h => ?_)
  exact ⟨_, rfl, h⟩
theorem c_entriesCopy48 {σ s : zSt} {v v2 : Nat} (hv : v2 ≠ v) (h : zCo σ v v2 47 s) : zOk (F_Entries_copyFrom v 48 v2 48 s) (zCo σ v v2 52) := by
  rw [F_Entries_copyFrom]
  refine zOk.bind (zCo_row hv h (o := 49) (L := 12) (b := 47) rfl (by decide) (by decide) (by decide) (by decide) rfl) (fun s h => ?_)
  refine zOk.bind (zCo_row hv h (o := 51) (L := 240) (b := 50) rfl (by decide) (by decide) (by decide) (by decide) rfl) (fun s h => ?_)
  exact ⟨_, rfl, h⟩
theorem c_journalCopy {σ s : zSt} {v v2 : Nat} (hv : v2 ≠ v) (h : zCo σ v v2 58 s) : zOk (F_Journal_copyFrom v v2 s) (zCo σ v v2 61) := by
  rw [F_Journal_copyFrom]
  have h := zCo_one (o := 59) hv h (by decide) (by decide) (by decide) rfl
  refine zOk.bind (zCo_row hv h (o := 60) (L := 180) (b := 59) rfl (by decide) (by decide) (by decide) (by decide) rfl) (fun s h => ?_)
  exact ⟨_, rfl, h⟩
theorem c_copyFrom {σ : zSt} {v v2 : Nat} (hv : v2 ≠ v) : zOk (F_Village_copyFrom v v2 σ) (zCo σ v v2 61) := by
  rw [F_Village_copyFrom]
  have h : zCo σ v v2 0 (zst (zst (zst (zst σ v 0 0 (σ.1 v2 0 0)) v 0 1 ((zst σ v 0 0 (σ.1 v2 0 0)).1 v2 0 1)) v 0 2 ((zst (zst σ v 0 0 (σ.1 v2 0 0)) v 0 1 ((zst σ v 0 0 (σ.1 v2 0 0)).1 v2 0 1)).1 v2 0 2)) v 0 3 ((zst (zst (zst σ v 0 0 (σ.1 v2 0 0)) v 0 1 ((zst σ v 0 0 (σ.1 v2 0 0)).1 v2 0 1)) v 0 2 ((zst (zst σ v 0 0 (σ.1 v2 0 0)) v 0 1 ((zst σ v 0 0 (σ.1 v2 0 0)).1 v2 0 1)).1 v2 0 2)).1 v2 0 3)) := by
    refine ⟨fun o i h1 h2 => ?_, fun g o i h1 => ?_, rfl⟩
    · have : o = 0 := by omega
      subst this
      have h2 : i < 4 := h2
      simp only [zst_at, hv, false_and, if_false, true_and]
      rcases (show i = 0 ∨ i = 1 ∨ i = 2 ∨ i = 3 by omega) with rfl | rfl | rfl | rfl <;> simp
    · rw [zst_at, if_neg (fun z => h1 z.1), zst_at, if_neg (fun z => h1 z.1), zst_at, if_neg (fun z => h1 z.1), zst_at, if_neg (fun z => h1 z.1)]
  refine zOk.bind (zCo_row hv h (o := 1) (L := 5) (b := 0) rfl (by decide) (by decide) (by decide) (by decide) rfl) (fun s h => ?_)
  refine zOk.bind (c_homesCopy hv h) (fun s h => ?_)
  refine zOk.bind (c_tidingsCopy hv h) (fun s h => ?_)
  refine zOk.bind (c_entriesCopy43 hv h) (fun s h => ?_)
  refine zOk.bind (c_entriesCopy48 hv h) (fun s h => ?_)
  refine zOk.bind (zCo_row hv h (o := 53) (L := 240) (b := 52) rfl (by decide) (by decide) (by decide) (by decide) rfl) (fun s h => ?_)
  refine zOk.bind (zCo_row hv h (o := 55) (L := 240) (b := 54) rfl (by decide) (by decide) (by decide) (by decide) rfl) (fun s h => ?_)
  refine zOk.bind (zCo_row hv h (o := 57) (L := 240) (b := 56) rfl (by decide) (by decide) (by decide) (by decide) rfl) (fun s h => ?_)
  refine zOk.bind (c_journalCopy hv h) (fun s h => ?_)
  exact ⟨_, rfl, h⟩
theorem zC_copy {σ s : zSt} {v v2 n m T : Nat} {A : zAb} {c : Int32} (hC : zC σ v2 A n m c T) (h : zCo σ v v2 61 s) : zC s v A n m c T := by
  obtain ⟨⟨r1, r2, r3, r4, r5, r6⟩, r7, hI, hD, hL⟩ := hC
  have hn := hI.1.2.2.1
  have hm := hI.1.2.2.2
  have e := h.1
  refine ⟨⟨?_, fun k hk => ?_, fun k hk => ?_, fun k hk => ?_, fun k w hk hw => ?_, fun k w hk hw => ?_⟩, ?_, hI, hD, hL⟩
  · obtain ⟨h1, h2, h3, h4, h5, h6, h7⟩ := r1
    refine ⟨?_, ?_, ?_, ?_, ?_, ?_, fun k hk => ?_⟩
    · rw [e 0 0 (by decide) (by decide)]; exact h1
    · rw [e 0 1 (by decide) (by decide)]; exact h2
    · rw [e 0 2 (by decide) (by decide)]; exact h3
    · rw [e 0 3 (by decide) (by decide)]; exact h4
    · rw [e 3 0 (by decide) (by decide)]; exact h5
    · rw [e 24 0 (by decide) (by decide)]; exact h6
    · rw [e 2 k (by decide) hk]; exact h7 k hk
  · have l : ∀ o, zl o = 12 → o ≤ 61 → s.1 v o k = σ.1 v2 o k := fun o a b => e o k b (by rw [a]; omega)
    rw [l 5 rfl (by decide), l 7 rfl (by decide), l 9 rfl (by decide), l 11 rfl (by decide), l 13 rfl (by decide), l 15 rfl (by decide), l 17 rfl (by decide), l 19 rfl (by decide), l 21 rfl (by decide), l 23 rfl (by decide)]
    exact r2 k hk
  · have l : ∀ o, zl o = 20 → o ≤ 61 → s.1 v o k = σ.1 v2 o k := fun o a b => e o k b (by rw [a]; omega)
    rw [l 26 rfl (by decide), l 28 rfl (by decide), l 30 rfl (by decide), l 32 rfl (by decide), l 34 rfl (by decide), l 36 rfl (by decide), l 38 rfl (by decide), l 40 rfl (by decide), l 42 rfl (by decide)]
    exact r3 k hk
  · have l : ∀ o, zl o = 12 → o ≤ 61 → s.1 v o k = σ.1 v2 o k := fun o a b => e o k b (by rw [a]; omega)
    rw [l 45 rfl (by decide), l 50 rfl (by decide)]
    exact r4 k hk
  · have l : ∀ o, zl o = 240 → o ≤ 61 → s.1 v o (20 * k + w) = σ.1 v2 o (20 * k + w) := fun o a b => e o _ b (by rw [a]; omega)
    rw [l 47 rfl (by decide), l 54 rfl (by decide), l 52 rfl (by decide)]
    exact r5 k w hk hw
  · have l : ∀ o, zl o = 240 → o ≤ 61 → s.1 v o (20 * k + w) = σ.1 v2 o (20 * k + w) := fun o a b => e o _ b (by rw [a]; omega)
    rw [l 56 rfl (by decide), l 58 rfl (by decide)]
    exact r6 k w hk hw
  · refine ⟨by rw [e 59 0 (by decide) (by decide)]; exact r7.1, fun s0 i k q1 q2 q3 q4 q5 => ?_⟩
    rw [e 61 _ (by decide) (show (s0 - 1 - i) % 30 * 6 + k < 180 by omega)]
    exact r7.2 s0 i k q1 q2 q3 q4 q5
def aPass (A : zAb) (n m : Nat) : Nat → zAb
  | 0 => A
  | k + 1 => aMin (aPass A n m k) n m
theorem c_passN {v n m : Nat} {A : zAb} {c : Int32} {T : Nat} : ∀ {k : Nat} {σ : zSt}, zC σ v A n m c T → T + k < 2 ^ 28 → ∃ s, zC s v (aPass A n m k) n m c (T + k)
  | 0, σ, h, _ => ⟨σ, h⟩
  | k + 1, σ, h, hT => by
    obtain ⟨s, hs⟩ := c_passN (k := k) h (by omega)
    obtain ⟨s2, -, h2, -⟩ := c_minute hs (by omega)
    exact ⟨s2, h2⟩
theorem c_pass {σ : zSt} {v n m : Nat} {A : zAb} {c : Int32} {T k : Nat} (hC : zC σ v A n m c T) (hT : T + k < 2 ^ 28) (hk : k ≤ 500) : zOk (F_Village_pass v (nI k) σ) (fun σ' => zC σ' v (aPass A n m k) n m c (T + k) ∧ zfV v σ σ') := by
  rw [F_Village_pass]
  refine z_loopC (fun j i st => L_Village_pass v j 0 (nI k) (nI i) st) k 0 (fun i st => zC st v (aPass A n m i) n m c (T + i) ∧ zfV v σ st) _ (fun i st hi hI j kk => ?_) (fun st hI j hj => ?_) zK σ (zK_lt (by omega)) ⟨hC, zfV.rf v σ⟩
  · try dsimp only
    rw [e_Village_pass_0, if_neg (nI_ge hi (by omega))]
    refine zOk.bind (c_minute hI.1 (by omega)) (fun s ⟨h1, h2⟩ => ?_)
    rw [nI_1]
    exact kk s ⟨h1, hI.2.tr h2⟩
  · try dsimp only
    rw [e_Village_pass_0, if_pos (nI_le0 (by omega))]
    exact ⟨_, rfl, hI⟩
theorem aInv_c {A : zAb} {n m T : Nat} (hI : aInv A n m T) : A 0 5 0 ≠ 0 ∧ (∀ h w, h < n → w < m → zTm (A 8 h w) ∧ zTm (A 11 h w)) ∧ (∃ x, x < 1000003 ∧ A 0 9 0 = nI x) ∧ (∀ i, i < n → A 1 i 4 = nI (aSh A i) ∧ 0 < aSh A i ∧ aSh A i < 10) := by
  obtain ⟨⟨d, hd1, hd2, hd⟩, -, hT, hx, -⟩ := hI.2.1
  refine ⟨by rw [hd]; exact nI_ne0 (by omega) (by omega), fun h w hh hw => ?_, hx, fun i hi => ?_⟩
  · obtain ⟨-, -, -, -, -, -, ⟨t, ht, et⟩, -, ⟨u, hu, eu⟩, -⟩ := hI.2.2.2.2 h w hh hw
    exact ⟨⟨t, by omega, et⟩, ⟨u, by omega, eu⟩⟩
  · obtain ⟨-, -, -, -, s, h1, h2, h3⟩ := hI.2.2.1 i hi
    unfold aSh
    rw [h3, nI_clamp (by omega)]
    exact ⟨rfl, by omega, by omega⟩
