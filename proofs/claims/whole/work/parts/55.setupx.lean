/-! what a setup says; the class reads it so -/
abbrev pE : Type := Nat × Nat
abbrev pS : Type := zAb × Nat × Nat × Nat
def eb {β γ : Type} (x : pE ⊕ β) (f : β → pE ⊕ γ) : pE ⊕ γ := match x with
  | .inl e => .inl e
  | .inr v => f v
def pN (b : Nat → Nat) (l p lo hx : Nat) : pE ⊕ (Nat × Nat) := if tk b l p = 2 then (if min (tn b l p) 10000000 < lo ∨ hx ≤ min (tn b l p) 10000000 then .inl (2, ts b l p) else .inr (min (tn b l p) 10000000, te b l p)) else .inl (1, ts b l p)
def dy (A : zAb) : Nat := (A 0 5 0).toNatClampNeg
def sLo (k : Nat) : Nat := ((zfv 1).getD k 0).toNatClampNeg
def sHi (k : Nat) : Nat := ((zfv 2).getD k 0).toNatClampNeg + 1
def pHouse (b : Nat → Nat) (l : Nat) (A : zAb) (n m p : Nat) : pE ⊕ pS :=
  if 12 ≤ n then .inl (3, ts b l p) else eb (pN b l (te b l p) 0 100) fun x => eb (pN b l x.2 0 100) fun y => eb (pN b l y.2 0 151) fun r => eb (pN b l r.2 0 1000) fun e => eb (pN b l e.2 1 10) fun s =>
    if tW b l s.2 2 = true then eb (pN b l (te b l s.2) 0 (dy A)) fun f => eb (pN b l f.2 0 (dy A)) fun t => .inr (aup (aup (aHouse A n (nI x.1) (nI y.1) (nI r.1) (nI e.1) (nI s.1)) 1 n 5 (nI f.1)) 1 n 6 (nI t.1), n + 1, m, t.2)
    else .inr (aHouse A n (nI x.1) (nI y.1) (nI r.1) (nI e.1) (nI s.1), n + 1, m, s.2)
def pSet (b : Nat → Nat) (l : Nat) (A : zAb) (n m p : Nat) : pE ⊕ pS :=
  eb (pN b l (te b l p) 0 5) fun k => eb (pN b l k.2 (sLo k.1) (sHi k.1)) fun v => .inr (aup A 0 k.1 0 (nI v.1), n, m, v.2)
def pSeed (b : Nat → Nat) (l : Nat) (A : zAb) (n m p : Nat) : pE ⊕ pS :=
  eb (pN b l (te b l p) 0 1000003) fun v => .inr (aup A 0 9 0 (nI v.1), n, m, v.2)
def pNews (b : Nat → Nat) (l : Nat) (A : zAb) (n m p : Nat) : pE ⊕ pS :=
  if 20 ≤ m then .inl (3, ts b l p) else eb (pN b l (te b l p) 0 n) fun h => eb (pN b l h.2 0 100) fun d => .inr (aTell A m h.1 (nI d.1), n, m + 1, d.2)
def pOne (b : Nat → Nat) (l : Nat) (A : zAb) (n m p : Nat) : pE ⊕ pS :=
  if tW b l p 1 = true then pHouse b l A n m p else if tW b l p 3 = true then pSet b l A n m p else if tW b l p 4 = true then pSeed b l A n m p else if tW b l p 5 = true then pNews b l A n m p else .inl (1, ts b l p)
def pEnd (b : Nat → Nat) (l : Nat) (q : pS) : pE ⊕ pS := if tk b l q.2.2.2 = 3 then .inr (q.1, q.2.1, q.2.2.1, te b l q.2.2.2) else .inl (1, ts b l q.2.2.2)
def pStm (b : Nat → Nat) (l : Nat) (q : pS) : pE ⊕ pS := eb (pOne b l q.1 q.2.1 q.2.2.1 q.2.2.2) (pEnd b l)
def pLoop (b : Nat → Nat) (l : Nat) : Nat → pS → pE ⊕ pS
  | 0, q => .inr q
  | d + 1, q => if tk b l q.2.2.2 = 0 then .inr q else eb (pStm b l q) (pLoop b l d)
def pAll (b : Nat → Nat) (l : Nat) (A : zAb) : pE ⊕ pS :=
  if tW b l 0 0 = true then eb (eb (pN b l (te b l 0) 24 241) fun d => pEnd b l (aup A 0 5 0 (nI d.1), 0, 0, d.2)) (pLoop b l 700) else pLoop b l 700 (A, 0, 0, 0)
theorem bd2_some {α β γ : Type} {a : α} {b : β} {f : α → β → Option γ} : bd2 (some (a, b)) f = f a b := rfl
def xFr (σ0 σ : zSt) : Prop := (∀ g o i, g ≠ 1 → ¬ (g = 4 ∧ ((o = 71 ∧ (i = 1 ∨ i = 2)) ∨ (o = 72 ∧ 2 ≤ i))) → σ.1 g o i = σ0.1 g o i) ∧ σ.2 = σ0.2
theorem xFr.rf (σ : zSt) : xFr σ σ := ⟨fun _ _ _ _ _ => rfl, rfl⟩
theorem xFr.tr {σ s2 s3 : zSt} (h : xFr σ s2) (h2 : xFr s2 s3) : xFr σ s3 := ⟨fun g o i a q => (h2.1 g o i a q).trans (h.1 g o i a q), h2.2.trans h.2⟩
theorem xFr.f {σ s2 : zSt} (h : xF σ s2) : xFr σ s2 := ⟨fun g o i _ q => h.1 g o i (by omega), h.2⟩
theorem xFr.v {σ s2 : zSt} (h : zfV 1 σ s2) : xFr σ s2 := ⟨fun g o i a _ => h.1 g o i a, h.2⟩
def xE (σ0 σ : zSt) (e : pE) : Prop := xFr σ0 σ ∧ σ.1 4 71 1 = nI e.1 ∧ 1 ≤ e.1 ∧ e.1 ≤ 3 ∧ σ.1 4 71 2 = nI e.2
def xOk (b : Nat → Nat) (l : Nat) (c : Int32) (σ0 σ : zSt) (A : zAb) (n m p : Nat) : Prop := xFr σ0 σ ∧ σ.1 4 71 1 = 0 ∧ σ.1 4 71 2 = -1 ∧ p ≤ l ∧ zPx σ b l ∧ xTk σ b l p ∧ zC σ 1 A n m c 0
def xR (b : Nat → Nat) (l : Nat) (c : Int32) (σ0 σ : zSt) : pE ⊕ pS → Prop
  | .inl e => xE σ0 σ e
  | .inr q => xOk b l c σ0 σ q.1 q.2.1 q.2.2.1 q.2.2.2
theorem tk_5 {b : Nat → Nat} {l p : Nat} : tk b l p < 5 := by
  unfold tk
  repeat' split
  all_goals omega
theorem xE.ne {σ0 σ : zSt} {e : pE} (h : xE σ0 σ e) : ¬ σ.1 4 71 1 = 0 := by
  rw [h.2.1]
  exact nI_ne0 h.2.2.1 (by have := h.2.2.2.1; omega)
theorem hi_of {hx : Nat} (h0 : 0 < hx) (h : hx < 2 ^ 31) : ∀ v, v < 200000000 → (nI v ≤ nI (hx - 1) ↔ v < hx) := fun v hv => by
  rw [nI_leI (by omega) (by omega)]
  omega
theorem zPx.v {σ σ' : zSt} {b : Nat → Nat} {l : Nat} (h : zPx σ b l) (f : xFr σ σ') : zPx σ' b l := ⟨h.1, h.2.1, by rw [f.1 4 72 1 (by decide) (by omega)]; exact h.2.2.1, fun i hi => by rw [f.1 4 74 i (by decide) (by omega)]; exact h.2.2.2 i hi⟩
theorem zC_h5 {σ : zSt} {A : zAb} {v n m T : Nat} {c : Int32} (hC : zC σ v A n m c T) (h : Nat) (x : Int32) : zC (zst σ v 15 h x) v (aup A 1 h 5 x) n m c T :=
  zC_e hC (R_h5 hC.1 h x) (fun o i q => by rw [zst_at, if_neg (by omega)]) (aInv_cg hC.2.2.1 (fun k _ => aup_f (by decide)) (fun i k _ hk => aup_j (by omega)) (fun w _ => aup_f (by decide)) (fun f i j a _ => aup_f (by omega))) (fun f i j q => aup_f (by omega))
theorem zC_h6 {σ : zSt} {A : zAb} {v n m T : Nat} {c : Int32} (hC : zC σ v A n m c T) (h : Nat) (x : Int32) : zC (zst σ v 17 h x) v (aup A 1 h 6 x) n m c T :=
  zC_e hC (R_h6 hC.1 h x) (fun o i q => by rw [zst_at, if_neg (by omega)]) (aInv_cg hC.2.2.1 (fun k _ => aup_f (by decide)) (fun i k _ hk => aup_j (by omega)) (fun w _ => aup_f (by decide)) (fun f i j a _ => aup_f (by omega))) (fun f i j q => aup_f (by omega))
theorem sLoHi : ∀ k, k < 5 → (zfv 1).getD k 0 = nI (sLo k) ∧ (zfv 2).getD k 0 = nI (sHi k - 1) ∧ sLo k < sHi k ∧ sHi k ≤ 201 := by decide
section PX
variable {σ0 σ : zSt} {b : Nat → Nat} {l : Nat} {A : zAb} {n m p : Nat} {c : Int32}
theorem x_numE (he : ¬ σ.1 4 71 1 = 0) (lo hi : Int32) : F_Reader_readNumber lo hi σ = some (lo, σ) := by rw [F_Reader_readNumber, if_neg he]
/-- what keeps all but the village -/
theorem xOk.up {σ' : zSt} {A' : zAb} {n' m' : Nat} (h : xOk b l c σ0 σ A n m p) (f : zfV 1 σ σ') (hC : zC σ' 1 A' n' m' c 0) : xOk b l c σ0 σ' A' n' m' p := by
  obtain ⟨h1, h2, h3, h4, h5, ⟨k1, k2, k3, k4⟩, -⟩ := h
  refine ⟨h1.tr (xFr.v f), (f.1 4 71 1 (by decide)).trans h2, (f.1 4 71 2 (by decide)).trans h3, h4, h5.v (xFr.v f), ⟨(f.1 4 72 3 (by decide)).trans k1, (f.1 4 72 2 (by decide)).trans k2, (f.1 4 72 4 (by decide)).trans k3, fun q => (f.1 4 72 5 (by decide)).trans (k4 q)⟩, hC⟩
theorem xE.up {σ' : zSt} {e : pE} (h : xE σ0 σ e) (f : zfV 1 σ σ') : xE σ0 σ' e :=
  ⟨h.1.tr (xFr.v f), (f.1 4 71 1 (by decide)).trans h.2.1, h.2.2.1, h.2.2.2.1, (f.1 4 71 2 (by decide)).trans h.2.2.2.2⟩
theorem x_fail (h : xOk b l c σ0 σ A n m p) {k : Nat} (k1 : 1 ≤ k) (k3 : k ≤ 3) : zOk (F_Reader_fail (nI k) σ) (fun s => xE σ0 s (k, ts b l p) ∧ zC s 1 A n m c 0) := by
  obtain ⟨h1, h2, h3, h4, h5, ⟨t1, t2, t3, t4⟩, hC⟩ := h
  refine ⟨_, rfl, ⟨h1.tr ⟨fun g o i a q => by rw [zst_at, if_neg (by omega), zst_at, if_neg (by omega)], rfl⟩, by rw [zst_at, if_neg (by omega), zst_at, if_pos ⟨rfl, rfl, rfl⟩], k1, k3, ?_⟩, zC_fr hC (fun o i => by rw [zst_at, if_neg (by omega), zst_at, if_neg (by omega)])⟩
  rw [zst_at, if_pos ⟨rfl, rfl, rfl⟩, zst_at, if_neg (by omega)]
  exact t1
theorem x_adv (h : xOk b l c σ0 σ A n m p) : zOk (F_Text_step σ) (fun s => xOk b l c σ0 s A n m (te b l p)) := by
  obtain ⟨h1, h2, h3, h4, h5, ⟨t1, t2, t3, t4⟩, hC⟩ := h
  obtain ⟨-, te2, -⟩ := te_in (b := b) h4
  exact (x_step h5 te2 t3).mono (fun s ⟨k1, k2⟩ => ⟨h1.tr (xFr.f k2), (k2.1 4 71 1 (by omega)).trans h2, (k2.1 4 71 2 (by omega)).trans h3, te2, h5.fr k2, k1, zC_fr hC (fun o i => k2.1 1 o i (by omega))⟩)
theorem x_num (h : xOk b l c σ0 σ A n m p) {lo hx : Nat} {hi : Int32} (hlo : lo < 2 ^ 31) (hhi : ∀ v, v < 200000000 → (nI v ≤ hi ↔ v < hx)) : zOk (F_Reader_readNumber (nI lo) hi σ) (fun q => match pN b l p lo hx with | .inl e => q.1 = nI lo ∧ xE σ0 q.2 e ∧ zC q.2 1 A n m c 0 | .inr w => q.1 = nI w.1 ∧ lo ≤ w.1 ∧ w.1 < hx ∧ xOk b l c σ0 q.2 A n m w.2) := by
  have hh := h
  obtain ⟨h1, h2, h3, h4, h5, ⟨t1, t2, t3, t4⟩, hC⟩ := h
  have e2 : nI (tk b l p) = (2 : Int32) ↔ tk b l p = 2 := n_eq (k := 2) (by have := tk_5 (b := b) (l := l) (p := p); omega) (by decide)
  rw [F_Reader_readNumber, if_pos h2, t2]
  unfold pN
  by_cases q : tk b l p = 2
  · rw [if_pos (e2.mpr q), if_pos q, t4 q]
    have vb : min (tn b l p) 10000000 ≤ 10000000 := by omega
    generalize min (tn b l p) 10000000 = v at *
    by_cases q1 : v < lo
    · rw [if_pos (nI_lt q1 hlo), if_pos (Or.inl q1)]
      exact zOk.bind (x_fail hh (k := 2) (by decide) (by decide)) (fun s ⟨k1, k2⟩ => ⟨_, rfl, rfl, k1, k2⟩)
    · rw [if_neg (nI_nlt (by omega) (by omega))]
      by_cases q2 : v < hx
      · rw [if_pos ((hhi v (by omega)).mpr q2), if_neg (by omega)]
        exact zOk.bind (x_adv hh) (fun s k1 => ⟨_, rfl, rfl, by show lo ≤ v; omega, q2, k1⟩)
      · rw [if_neg (fun y => q2 ((hhi v (by omega)).mp y)), if_pos (Or.inr (by omega))]
        exact zOk.bind (x_fail hh (k := 2) (by decide) (by decide)) (fun s ⟨k1, k2⟩ => ⟨_, rfl, rfl, k1, k2⟩)
  · rw [if_neg (fun y => q (e2.mp y)), if_neg q]
    exact zOk.bind (x_fail hh (k := 1) (by decide) (by decide)) (fun s ⟨k1, k2⟩ => ⟨_, rfl, rfl, k1, k2⟩)
theorem x_semi (h : xOk b l c σ0 σ A n m p) : zOk (F_Reader_readSemicolon σ) (fun s => xR b l c σ0 s (pEnd b l (A, n, m, p))) := by
  have hh := h
  obtain ⟨h1, h2, h3, h4, h5, ⟨t1, t2, t3, t4⟩, hC⟩ := h
  have e3 : nI (tk b l p) = (3 : Int32) ↔ tk b l p = 3 := n_eq (k := 3) (by have := tk_5 (b := b) (l := l) (p := p); omega) (by decide)
  rw [F_Reader_readSemicolon, if_pos h2, t2]
  unfold pEnd
  by_cases q : tk b l p = 3
  · rw [if_pos (e3.mpr q), if_pos q]
    exact zOk.bind (x_adv hh) (fun s k1 => ⟨_, rfl, k1⟩)
  · rw [if_neg (fun y => q (e3.mp y)), if_neg q]
    exact zOk.bind (x_fail hh (k := 1) (by decide) (by decide)) (fun s ⟨k1, k2⟩ => ⟨_, rfl, k1⟩)
theorem x_semiE {e : pE} (h : xE σ0 σ e) : F_Reader_readSemicolon σ = some σ := by rw [F_Reader_readSemicolon, if_neg h.ne]
/-- a whole statement and its semicolon, out of the statement alone -/
theorem x_tail {r : pE ⊕ pS} (h : xR b l c σ0 σ r) : zOk (F_Reader_readSemicolon σ) (fun s => xR b l c σ0 s (eb r (pEnd b l))) := by
  cases r with
  | inl e => rw [x_semiE h]; exact ⟨_, rfl, h⟩
  | inr q => exact x_semi h
/-- a house added behind an error: its fields are of no use, the village is whole -/
theorem x_addE {e : pE} (h : xE σ0 σ e) (hC : zC σ 1 A n m c 0) (hn : n < 12) {x y r t s : Nat} (hx : x ≤ 99) (hy : y ≤ 99) (hr : r ≤ 150) (ht : t ≤ 999) (hs : 1 ≤ s ∧ s ≤ 9) {Q : zSt → Prop} (k : ∀ s', xE σ0 s' e → Q s') (f : Int32 → zSt → Option zSt) (g : Int32 → zSt → Option zSt) (hf : ∀ r s', f r s' = if (s'.1 4 71 1) = 0 then g r s' else some s') : zOk (bd2 (F_Homes_add 1 (nI x) (nI y) (nI r) (nI t) (nI s) σ) f) Q := by
  refine zOk.bd2 (c_addHouse hC hn hx hy hr ht hs) (fun q s' ⟨_, _, h3⟩ => ?_)
  have h4 := h.up h3
  rw [hf, if_neg h4.ne]
  exact ⟨_, rfl, k s' h4⟩
theorem x_house (h : xOk b l c σ0 σ A n m p) : zOk (F_Reader_readHouse 1 σ) (fun s => xR b l c σ0 s (pHouse b l A n m p)) := by
  have en := h.2.2.2.2.2.2.1.1.2.2.2.2.1
  have hn := h.2.2.2.2.2.2.2.2.1.1.2.2.1
  rw [F_Reader_readHouse, x_full σ en hn, Option.bind_some]
  unfold pHouse
  by_cases q : n < 12
  · rw [if_pos q, if_pos rfl, if_neg (by omega)]
    refine zOk.bind (x_adv h) (fun s1 h1 => ?_)
    have k1 := x_num h1 (lo := 0) (hx := 100) (hi := 99) (by decide) (hi_of (hx := 100) (by decide) (by decide))
    cases e1 : pN b l (te b l p) 0 100 with
    | inl e =>
      rw [e1] at k1
      refine zOk.bd2 k1 (fun r s hk => ?_)
      obtain ⟨rfl, he, hC⟩ : r = nI 0 ∧ xE σ0 s e ∧ zC s 1 A n m c 0 := hk
      simp only [x_numE he.ne, bd2_some]
      exact x_addE he hC q (x := 0) (y := 0) (r := 0) (t := 0) (s := 1) (by decide) (by decide) (by decide) (by decide) (by decide) (fun s' h' => h') _ _ (fun _ _ => rfl)
    | inr w1 =>
    rw [e1] at k1
    refine zOk.bd2 k1 (fun r s2 hk => ?_)
    obtain ⟨rfl, -, b1, h2⟩ : r = nI w1.1 ∧ 0 ≤ w1.1 ∧ w1.1 < 100 ∧ xOk b l c σ0 s2 A n m w1.2 := hk
    have k2 := x_num h2 (lo := 0) (hx := 100) (hi := 99) (by decide) (hi_of (hx := 100) (by decide) (by decide))
    show zOk _ (fun s => xR b l c σ0 s (eb (pN b l w1.2 0 100) _))
    cases e2 : pN b l w1.2 0 100 with
    | inl e =>
      rw [e2] at k2
      refine zOk.bd2 k2 (fun r s hk => ?_)
      obtain ⟨rfl, he, hC⟩ : r = nI 0 ∧ xE σ0 s e ∧ zC s 1 A n m c 0 := hk
      simp only [x_numE he.ne, bd2_some]
      exact x_addE he hC q (x := w1.1) (y := 0) (r := 0) (t := 0) (s := 1) (by omega) (by decide) (by decide) (by decide) (by decide) (fun s' h' => h') _ _ (fun _ _ => rfl)
    | inr w2 =>
    rw [e2] at k2
    refine zOk.bd2 k2 (fun r s3 hk => ?_)
    obtain ⟨rfl, -, b2, h3⟩ : r = nI w2.1 ∧ 0 ≤ w2.1 ∧ w2.1 < 100 ∧ xOk b l c σ0 s3 A n m w2.2 := hk
    have k3 := x_num h3 (lo := 0) (hx := 151) (hi := 150) (by decide) (hi_of (hx := 151) (by decide) (by decide))
    show zOk _ (fun s => xR b l c σ0 s (eb (pN b l w2.2 0 151) _))
    cases e3 : pN b l w2.2 0 151 with
    | inl e =>
      rw [e3] at k3
      refine zOk.bd2 k3 (fun r s hk => ?_)
      obtain ⟨rfl, he, hC⟩ : r = nI 0 ∧ xE σ0 s e ∧ zC s 1 A n m c 0 := hk
      simp only [x_numE he.ne, bd2_some]
      exact x_addE he hC q (x := w1.1) (y := w2.1) (r := 0) (t := 0) (s := 1) (by omega) (by omega) (by decide) (by decide) (by decide) (fun s' h' => h') _ _ (fun _ _ => rfl)
    | inr w3 =>
    rw [e3] at k3
    refine zOk.bd2 k3 (fun r s4 hk => ?_)
    obtain ⟨rfl, -, b3, h4⟩ : r = nI w3.1 ∧ 0 ≤ w3.1 ∧ w3.1 < 151 ∧ xOk b l c σ0 s4 A n m w3.2 := hk
    have k4 := x_num h4 (lo := 0) (hx := 1000) (hi := 999) (by decide) (hi_of (hx := 1000) (by decide) (by decide))
    show zOk _ (fun s => xR b l c σ0 s (eb (pN b l w3.2 0 1000) _))
    cases e4 : pN b l w3.2 0 1000 with
    | inl e =>
      rw [e4] at k4
      refine zOk.bd2 k4 (fun r s hk => ?_)
      obtain ⟨rfl, he, hC⟩ : r = nI 0 ∧ xE σ0 s e ∧ zC s 1 A n m c 0 := hk
      simp only [x_numE he.ne, bd2_some]
      exact x_addE he hC q (x := w1.1) (y := w2.1) (r := w3.1) (t := 0) (s := 1) (by omega) (by omega) (by omega) (by decide) (by decide) (fun s' h' => h') _ _ (fun _ _ => rfl)
    | inr w4 =>
    rw [e4] at k4
    refine zOk.bd2 k4 (fun r s5 hk => ?_)
    obtain ⟨rfl, -, b4, h5⟩ : r = nI w4.1 ∧ 0 ≤ w4.1 ∧ w4.1 < 1000 ∧ xOk b l c σ0 s5 A n m w4.2 := hk
    have k5 := x_num h5 (lo := 1) (hx := 10) (hi := 9) (by decide) (hi_of (hx := 10) (by decide) (by decide))
    show zOk _ (fun s => xR b l c σ0 s (eb (pN b l w4.2 1 10) _))
    cases e5 : pN b l w4.2 1 10 with
    | inl e =>
      rw [e5] at k5
      refine zOk.bd2 k5 (fun r s hk => ?_)
      obtain ⟨rfl, he, hC⟩ : r = nI 1 ∧ xE σ0 s e ∧ zC s 1 A n m c 0 := hk
      exact x_addE he hC q (x := w1.1) (y := w2.1) (r := w3.1) (t := w4.1) (s := 1) (by omega) (by omega) (by omega) (by omega) (by decide) (fun s' h' => h') _ _ (fun _ _ => rfl)
    | inr w5 =>
    rw [e5] at k5
    refine zOk.bd2 k5 (fun r s6 hk => ?_)
    obtain ⟨rfl, b5, b5', h6⟩ : r = nI w5.1 ∧ 1 ≤ w5.1 ∧ w5.1 < 10 ∧ xOk b l c σ0 s6 A n m w5.2 := hk
    have hday : ∃ d, 24 ≤ d ∧ d ≤ 240 ∧ A 0 5 0 = nI d := h6.2.2.2.2.2.2.2.2.1.2.1.1
    refine zOk.bd2 (c_addHouse h6.2.2.2.2.2.2 q (show w1.1 ≤ 99 by omega) (show w2.1 ≤ 99 by omega) (show w3.1 ≤ 150 by omega) (show w4.1 ≤ 999 by omega) ⟨b5, by omega⟩) (fun r7 s7 ⟨g1, g2, g3⟩ => ?_)
    have g1 : r7 = nI n := g1
    subst g1
    have h7 := h6.up g3 g2
    show zOk _ (fun s => xR b l c σ0 s (if tW b l w5.2 2 = true then _ else _))
    rw [if_pos h7.2.1, x_word h7.2.2.2.2.1 h7.2.2.2.1 h7.2.2.2.2.2.1 (i := 2) (by decide), Option.bind_some]
    by_cases z : tW b l w5.2 2 = true
    · rw [if_neg (bI_ne z), if_pos z]
      refine zOk.bind (x_adv h7) (fun s8 h8 => ?_)
      obtain ⟨d, d1, d2, ed⟩ := hday
      have edy : dy A = d := by unfold dy; rw [ed, nI_clamp (by omega)]
      have ea5 : aHouse A n (nI w1.1) (nI w2.1) (nI w3.1) (nI w4.1) (nI w5.1) 0 5 0 = nI d := by rw [aHo_at (by omega)]; exact ed
      generalize aHouse A n (nI w1.1) (nI w2.1) (nI w3.1) (nI w4.1) (nI w5.1) = A1 at *
      have hid : ∀ v, v < 200000000 → (nI v ≤ nI d - 1 ↔ v < d) := by
        rw [show nI d - 1 = nI (d - 1) from pk_sub (b := 1) (by omega)]
        exact hi_of (by omega) (by omega)
      have day8 : ∀ s A' n' m' p', xOk b l c σ0 s A' n' m' p' → A' 0 5 0 = nI d → s.1 1 0 0 - 1 = nI d - 1 := fun s A' n' m' p' hs e => by rw [hs.2.2.2.2.2.2.1.1.1, e]
      rw [day8 _ _ _ _ _ h8 ea5, edy]
      have k9 := x_num h8 (lo := 0) (hx := d) (by decide) hid
      cases e9 : pN b l (te b l w5.2) 0 d with
      | inl e =>
        rw [e9] at k9
        refine zOk.bd2 k9 (fun r s hk => ?_)
        obtain ⟨rfl, he, hC⟩ : r = nI 0 ∧ xE σ0 s e ∧ zC s 1 A1 (n + 1) m c 0 := hk
        refine zOk.eq (r_put14 q _) ?_
        have he2 := he.up (zfV.st 1 s 15 n (nI 0))
        simp only [x_numE he2.ne, bd2_some]
        refine zOk.eq (r_put16 q _) ?_
        exact ⟨_, rfl, he2.up (zfV.st 1 _ 17 n 0)⟩
      | inr w9 =>
      rw [e9] at k9
      refine zOk.bd2 k9 (fun r s9 hk => ?_)
      obtain ⟨rfl, -, b9, h9⟩ : r = nI w9.1 ∧ 0 ≤ w9.1 ∧ w9.1 < d ∧ xOk b l c σ0 s9 A1 (n + 1) m w9.2 := hk
      refine zOk.eq (r_put14 q _) ?_
      have h10 := h9.up (zfV.st 1 s9 15 n (nI w9.1)) (zC_h5 h9.2.2.2.2.2.2 n (nI w9.1))
      rw [day8 _ _ _ _ _ h10 (by rw [aup_f (by decide)]; exact ea5)]
      have k10 := x_num h10 (lo := 0) (hx := d) (by decide) hid
      show zOk _ (fun s => xR b l c σ0 s (eb (pN b l w9.2 0 d) _))
      cases e10 : pN b l w9.2 0 d with
      | inl e =>
        rw [e10] at k10
        refine zOk.bd2 k10 (fun r s hk => ?_)
        obtain ⟨rfl, he, hC⟩ : r = nI 0 ∧ xE σ0 s e ∧ _ := hk
        refine zOk.eq (r_put16 q _) ?_
        exact ⟨_, rfl, he.up (zfV.st 1 _ 17 n (nI 0))⟩
      | inr w10 =>
      rw [e10] at k10
      refine zOk.bd2 k10 (fun r s11 hk => ?_)
      obtain ⟨rfl, -, b10, h11⟩ : r = nI w10.1 ∧ 0 ≤ w10.1 ∧ w10.1 < d ∧ xOk b l c σ0 s11 _ (n + 1) m w10.2 := hk
      refine zOk.eq (r_put16 q _) ?_
      exact ⟨_, rfl, h11.up (zfV.st 1 s11 17 n (nI w10.1)) (zC_h6 h11.2.2.2.2.2.2 n (nI w10.1))⟩
    · rw [if_pos (bI_f (by simpa using z)), if_neg z]
      exact ⟨_, rfl, h7⟩
  · rw [if_neg q, if_neg (by decide), if_pos (by omega)]
    exact zOk.bind (x_fail h (k := 3) (by decide) (by decide)) (fun s ⟨k1, k2⟩ => ⟨_, rfl, k1⟩)
theorem x_pset (h : xOk b l c σ0 σ A n m p) : zOk (F_Reader_readSetting 1 σ) (fun s => xR b l c σ0 s (pSet b l A n m p)) := by
  rw [F_Reader_readSetting]
  unfold pSet
  refine zOk.bind (x_adv h) (fun s1 h1 => ?_)
  have k1 := x_num h1 (lo := 0) (hx := 5) (hi := 4) (by decide) (hi_of (hx := 5) (by decide) (by decide))
  cases e1 : pN b l (te b l p) 0 5 with
  | inl e =>
    rw [e1] at k1
    refine zOk.bd2 k1 (fun r s hk => ?_)
    obtain ⟨rfl, he, hC⟩ : r = nI 0 ∧ xE σ0 s e ∧ zC s 1 A n m c 0 := hk
    refine zOk.eq (x_elem 1 (k := 0) (by decide) s) (zOk.eq (x_elem 2 (k := 0) (by decide) s) ?_)
    simp only [x_numE he.ne, bd2_some]
    refine zOk.eq (r_put1 (i := 0) (by decide) _) ?_
    exact ⟨_, rfl, he.up (zfV.st 1 s 2 0 _)⟩
  | inr w1 =>
    rw [e1] at k1
    refine zOk.bd2 k1 (fun r s2 hk => ?_)
    obtain ⟨rfl, -, b1, h2⟩ : r = nI w1.1 ∧ 0 ≤ w1.1 ∧ w1.1 < 5 ∧ xOk b l c σ0 s2 A n m w1.2 := hk
    obtain ⟨l1, l2, l3, l4⟩ := sLoHi w1.1 b1
    refine zOk.eq (x_elem 1 b1 s2) (zOk.eq (x_elem 2 b1 s2) ?_)
    rw [l1, l2]
    have k2 := x_num h2 (lo := sLo w1.1) (hx := sHi w1.1) (by omega) (hi_of (hx := sHi w1.1) (by omega) (by omega))
    show zOk _ (fun s => xR b l c σ0 s (eb (pN b l w1.2 (sLo w1.1) (sHi w1.1)) _))
    cases e2 : pN b l w1.2 (sLo w1.1) (sHi w1.1) with
    | inl e =>
      rw [e2] at k2
      refine zOk.bd2 k2 (fun r s hk => ?_)
      obtain ⟨rfl, he, hC⟩ : r = nI (sLo w1.1) ∧ xE σ0 s e ∧ zC s 1 A n m c 0 := hk
      refine zOk.eq (r_put1 b1 _) ?_
      exact ⟨_, rfl, he.up (zfV.st 1 s 2 w1.1 _)⟩
    | inr w2 =>
      rw [e2] at k2
      refine zOk.bd2 k2 (fun r s3 hk => ?_)
      obtain ⟨rfl, b2, b3, h3⟩ : r = nI w2.1 ∧ sLo w1.1 ≤ w2.1 ∧ w2.1 < sHi w1.1 ∧ xOk b l c σ0 s3 A n m w2.2 := hk
      refine zOk.eq (r_put1 b1 _) ?_
      exact ⟨_, rfl, h3.up (zfV.st 1 s3 2 w1.1 (nI w2.1)) (zC_set h3.2.2.2.2.2.2 b1 (by rw [l2]; exact nI_le (by omega) (by omega)) (by omega))⟩
/-- a news told behind an error -/
theorem t_news {h : Nat} (hh : h < 12) (hm : m < 20) (e : σ.1 1 24 0 = nI m) (x : Int32) : zOk (F_Village_addNews 1 (nI h) x σ) (fun q => zfV 1 σ q.2) := by
  rw [F_Village_addNews, F_Tidings_add, e, r_put25 hm, Option.bind_some, r_put27 hm, Option.bind_some, r_put29 hm, Option.bind_some, r_put31 hm, Option.bind_some, r_put33 hm, Option.bind_some, r_put35 hm, Option.bind_some, F_Waves_bit, Option.bind_some, r_put37 hm, Option.bind_some, r_put39 hm, Option.bind_some, r_put41 hm, Option.bind_some, bd2_some]
  generalize hs1 : zst (zst (zst (zst (zst (zst (zst (zst (zst (zst σ 1 26 m (nI h)) 1 28 m (σ.1 1 0 1)) 1 30 m x) 1 32 m (-1)) 1 34 m (-1)) 1 36 m (-1)) 1 38 m ((1 : Int32) <<< (nI h &&& 31))) 1 40 m 0) 1 42 m 0) 1 24 0 (nI m + 1) = s1
  have f1 : zfV 1 σ s1 := by
    rw [← hs1]
    exact (((((((((zfV.st 1 _ _ _ _).tr (zfV.st 1 _ _ _ _)).tr (zfV.st 1 _ _ _ _)).tr (zfV.st 1 _ _ _ _)).tr (zfV.st 1 _ _ _ _)).tr (zfV.st 1 _ _ _ _)).tr (zfV.st 1 _ _ _ _)).tr (zfV.st 1 _ _ _ _)).tr (zfV.st 1 _ _ _ _)).tr (zfV.st 1 _ _ _ _)
  refine z_loopC (fun j k st => L_Village_addNews 1 j 0 (nI h) (nI m) (nI k) st) 12 0 (fun k st => zfV 1 σ st) _ (fun k st hk hJ j kk => ?_) (fun st hJ j hj => ?_) zK s1 (zK_lt (by omega)) f1
  · try dsimp only
    rw [e_Village_addNews_0, if_neg (show ¬ (12 : Int32) ≤ nI k from nI_ge (b := 12) hk (by decide))]
    refine zOk.eq (r_cell st) (zOk.eq (r_put55 (by omega) _) (zOk.eq (r_cell _) (zOk.eq (r_put57 (by omega) _) ?_)))
    rw [nI_1]
    exact kk _ ((hJ.tr (zfV.st 1 st 56 _ _)).tr (zfV.st 1 _ 58 _ _))
  · try dsimp only
    rw [e_Village_addNews_0, if_pos (show (12 : Int32) ≤ nI 12 by decide)]
    refine zOk.eq (c_put43 (by omega) (by omega) _) (zOk.eq (r_cell _) (zOk.eq (r_put53 (by omega) _) ?_))
    exact ⟨_, rfl, ((hJ.tr (zfV.st 1 st 45 _ _)).tr (zfV.st 1 _ 47 _ _)).tr (zfV.st 1 _ 54 _ _)⟩
theorem x_pnews (h : xOk b l c σ0 σ A n m p) : zOk (F_Reader_readNews 1 σ) (fun s => xR b l c σ0 s (pNews b l A n m p)) := by
  have hm := h.2.2.2.2.2.2.2.2.1.1.2.2.2
  have hn := h.2.2.2.2.2.2.2.2.1.1.2.2.1
  have ew : ∀ s A' n' m' p', xOk b l c σ0 s A' n' m' p' → s.1 1 24 0 = nI m' := fun s A' n' m' p' hs => hs.2.2.2.2.2.2.1.1.2.2.2.2.2.1
  rw [F_Reader_readNews, x_fullw σ (ew _ _ _ _ _ h) hm, Option.bind_some]
  unfold pNews
  by_cases q : m < 20
  · rw [if_pos q, if_pos rfl, if_neg (by omega)]
    refine zOk.bind (x_adv h) (fun s1 h1 => ?_)
    rw [h1.2.2.2.2.2.2.1.1.2.2.2.2.1]
    have hid : ∀ v, v < 200000000 → (nI v ≤ nI n - 1 ↔ v < n) := by
      by_cases z : 0 < n
      · rw [show nI n - 1 = nI (n - 1) from pk_sub (b := 1) (by omega)]
        exact hi_of z (by omega)
      · intro v hv
        have : n = 0 := by omega
        subst this
        constructor
        · intro y
          exfalso
          rw [Int32.le_iff_toInt_le, nI_toInt (by omega)] at y
          have : (nI 0 - 1).toInt = -1 := by decide
          omega
        · intro y; omega
    have k1 := x_num h1 (lo := 0) (hx := n) (by decide) hid
    cases e1 : pN b l (te b l p) 0 n with
    | inl e =>
      rw [e1] at k1
      refine zOk.bd2 k1 (fun r s hk => ?_)
      obtain ⟨rfl, he, hC⟩ : r = nI 0 ∧ xE σ0 s e ∧ zC s 1 A n m c 0 := hk
      simp only [x_numE he.ne, bd2_some]
      exact zOk.bd2 (t_news (h := 0) (by decide) q hC.1.1.2.2.2.2.2.1 _) (fun r s' h' => ⟨_, rfl, he.up h'⟩)
    | inr w1 =>
      rw [e1] at k1
      refine zOk.bd2 k1 (fun r s2 hk => ?_)
      obtain ⟨rfl, -, b1, h2⟩ : r = nI w1.1 ∧ 0 ≤ w1.1 ∧ w1.1 < n ∧ xOk b l c σ0 s2 A n m w1.2 := hk
      have k2 := x_num h2 (lo := 0) (hx := 100) (hi := 99) (by decide) (hi_of (hx := 100) (by decide) (by decide))
      show zOk _ (fun s => xR b l c σ0 s (eb (pN b l w1.2 0 100) _))
      cases e2 : pN b l w1.2 0 100 with
      | inl e =>
        rw [e2] at k2
        refine zOk.bd2 k2 (fun r s hk => ?_)
        obtain ⟨rfl, he, hC⟩ : r = nI 0 ∧ xE σ0 s e ∧ zC s 1 A n m c 0 := hk
        exact zOk.bd2 (t_news (h := w1.1) (by omega) q hC.1.1.2.2.2.2.2.1 _) (fun r s' h' => ⟨_, rfl, he.up h'⟩)
      | inr w2 =>
        rw [e2] at k2
        refine zOk.bd2 k2 (fun r s3 hk => ?_)
        obtain ⟨rfl, -, b2, h3⟩ : r = nI w2.1 ∧ 0 ≤ w2.1 ∧ w2.1 < 100 ∧ xOk b l c σ0 s3 A n m w2.2 := hk
        exact zOk.bd2 (c_addNews h3.2.2.2.2.2.2 q b1 (nI w2.1)) (fun r s' ⟨g1, g2, g3⟩ => ⟨_, rfl, h3.up g3 g2⟩)
  · rw [if_neg q, if_neg (by decide), if_pos (by omega)]
    exact zOk.bind (x_fail h (k := 3) (by decide) (by decide)) (fun s ⟨k1, k2⟩ => ⟨_, rfl, k1⟩)
def xL (b : Nat → Nat) (l : Nat) (c : Int32) (σ0 : zSt) (r : pE ⊕ pS) (o : Int32 × zSt) : Prop := (match r with
  | .inl _ => o.1 = 0
  | .inr _ => o.1 = 1) ∧ xR b l c σ0 o.2 r
theorem x_loop : ∀ d k j (q : pS) (s : zSt), k + d = 700 → xOk b l c σ0 s q.1 q.2.1 q.2.2.1 q.2.2.2 → d < j → zOk (L_Reader_readSetup 1 j 0 (nI k) s) (xL b l c σ0 (pLoop b l d q)) := by
  intro d
  induction d with
  | zero =>
    intro k j q s hk h hj
    obtain ⟨j, rfl⟩ : ∃ q, j = q + 1 := ⟨j - 1, by omega⟩
    have : k = 700 := by omega
    subst this
    rw [e_Reader_readSetup_0, if_pos (show (700 : Int32) ≤ nI 700 by decide), if_pos h.2.1]
    exact ⟨_, rfl, rfl, h⟩
  | succ d ih =>
    intro k j q s hk h hj
    obtain ⟨j, rfl⟩ : ∃ q, j = q + 1 := ⟨j - 1, by omega⟩
    obtain ⟨A1, n1, m1, p1⟩ := q
    have h : xOk b l c σ0 s A1 n1 m1 p1 := h
    have hh := h
    obtain ⟨h1, h2, h3, h4, h5, hK, hC⟩ := h
    have e0 : nI (tk b l p1) = (0 : Int32) ↔ tk b l p1 = 0 := n_eq (k := 0) (by have := tk_5 (b := b) (l := l) (p := p1); omega) (by decide)
    rw [e_Reader_readSetup_0, if_neg (show ¬ (700 : Int32) ≤ nI k from nI_ge (b := 700) (by omega) (by decide)), if_pos h2, hK.2.1]
    rw [pLoop]
    show zOk _ (xL b l c σ0 (if tk b l p1 = 0 then .inr (A1, n1, m1, p1) else eb (pStm b l (A1, n1, m1, p1)) (pLoop b l d)))
    by_cases z : tk b l p1 = 0
    · rw [if_pos (e0.mpr z), if_pos h2, if_pos z]
      exact ⟨_, rfl, rfl, hh⟩
    · rw [if_neg (fun y => z (e0.mp y)), if_neg z]
      -- behind a statement
      have go : ∀ (r : pE ⊕ pS) (s1 : zSt), xR b l c σ0 s1 r → zOk ((F_Reader_readSemicolon s1).bind fun s2 => L_Reader_readSetup 1 j 0 (nI k + 1) s2) (xL b l c σ0 (eb (eb r (pEnd b l)) (pLoop b l d))) := fun r s1 hr => by
        refine zOk.bind (x_tail hr) (fun s2 h2 => ?_)
        rw [nI_1]
        cases e : eb r (pEnd b l) with
        | inl er =>
          rw [e] at h2
          have h2 : xE σ0 s2 er := h2
          obtain ⟨j, rfl⟩ : ∃ q, j = q + 1 := ⟨j - 1, by omega⟩
          rw [e_Reader_readSetup_0]
          by_cases y : (700 : Int32) ≤ nI (k + 1)
          · rw [if_pos y, if_neg h2.ne]; exact ⟨_, rfl, rfl, h2⟩
          · rw [if_neg y, if_neg h2.ne, if_neg h2.ne]; exact ⟨_, rfl, rfl, h2⟩
        | inr q2 =>
          rw [e] at h2
          exact ih (k + 1) j q2 s2 (by omega) h2 (by omega)
      unfold pStm pOne
      have w1 := x_word h5 h4 hK (i := 1) (by decide)
      have w3 := x_word h5 h4 hK (i := 3) (by decide)
      have w4 := x_word h5 h4 hK (i := 4) (by decide)
      have w5 := x_word h5 h4 hK (i := 5) (by decide)
      show zOk _ (xL b l c σ0 (eb (eb (if tW b l p1 1 = true then pHouse b l A1 n1 m1 p1 else if tW b l p1 3 = true then pSet b l A1 n1 m1 p1 else if tW b l p1 4 = true then pSeed b l A1 n1 m1 p1 else if tW b l p1 5 = true then pNews b l A1 n1 m1 p1 else .inl (1, ts b l p1)) (pEnd b l)) (pLoop b l d)))
      rw [w1, Option.bind_some]
      by_cases y1 : tW b l p1 1 = true
      · rw [if_neg (bI_ne y1), if_pos y1]
        exact zOk.bind (x_house hh) (fun s1 g => go _ s1 g)
      · rw [if_pos (bI_f (by simpa using y1)), if_neg y1, w3, Option.bind_some]
        by_cases y3 : tW b l p1 3 = true
        · rw [if_neg (bI_ne y3), if_pos y3]
          exact zOk.bind (x_pset hh) (fun s1 g => go _ s1 g)
        · rw [if_pos (bI_f (by simpa using y3)), if_neg y3, w4, Option.bind_some]
          by_cases y4 : tW b l p1 4 = true
          · rw [if_neg (bI_ne y4), if_pos y4]
            refine zOk.bind (x_adv hh) (fun s1 g1 => ?_)
            have k1 := x_num g1 (lo := 0) (hx := 1000003) (hi := 1000002) (by decide) (hi_of (hx := 1000003) (by decide) (by decide))
            unfold pSeed
            cases e1 : pN b l (te b l p1) 0 1000003 with
            | inl e =>
              rw [e1] at k1
              refine zOk.bd2 k1 (fun r s2 hk => ?_)
              obtain ⟨rfl, he, hC⟩ : r = nI 0 ∧ xE σ0 s2 e ∧ zC s2 1 A1 n1 m1 c 0 := hk
              exact go (.inl e) _ (he.up (zfV.st 1 s2 0 2 (nI 0)))
            | inr w =>
              rw [e1] at k1
              refine zOk.bd2 k1 (fun r s2 hk => ?_)
              obtain ⟨rfl, -, b1, g2⟩ : r = nI w.1 ∧ 0 ≤ w.1 ∧ w.1 < 1000003 ∧ xOk b l c σ0 s2 A1 n1 m1 w.2 := hk
              exact go (.inr (aup A1 0 9 0 (nI w.1), n1, m1, w.2)) _ (g2.up (zfV.st 1 s2 0 2 (nI w.1)) (zC_lot g2.2.2.2.2.2.2 b1))
          · rw [if_pos (bI_f (by simpa using y4)), if_neg y4, w5, Option.bind_some]
            by_cases y5 : tW b l p1 5 = true
            · rw [if_neg (bI_ne y5), if_pos y5]
              exact zOk.bind (x_pnews hh) (fun s1 g => go _ s1 g)
            · rw [if_pos (bI_f (by simpa using y5)), if_neg y5]
              exact zOk.bind (x_fail hh (k := 1) (by decide) (by decide)) (fun s1 g => go (.inl (1, ts b l p1)) s1 g.1)
end PX
