/-! a minute -/
def aSp (A : zAb) (s : Nat) : zAb := aup (aup (aup (aup (aup A 1 s 3 (A 1 s 3 - A 0 0 0)) 1 s 7 (A 1 s 7 + 1)) 1 s 8 (A 1 s 8 + 1)) 0 10 0 (A 0 10 0 + 1)) 13 23 0 (A 13 23 0 + A 0 0 0)
def aHd (A : zAb) (s h : Nat) : Bool := aRng A s h && !aQuiet A h (aT A) && !decide (A 1 h 3 < A 0 1 0)
def aSd (B : zAb) (hd : Nat → Bool) (k : Nat) : zAb := fun f i j => if f = 1 ∧ i < k ∧ j = 3 ∧ hd i = true then B 1 i 3 - B 0 1 0 else if f = 13 ∧ i = 23 ∧ j = 0 then B 13 23 0 + B 0 1 0 * nI (fb_ct hd k) else B f i j
def aGet (A : zAb) (s w h : Nat) (hops : Int32) : zAb := if A 0 4 0 < hops then aup (aup (aup A 3 h w 1) 5 h w (nI s)) 6 h w hops else aup (aup (aup (aup (aup (aup A 3 h w 1) 5 h w (nI s)) 6 h w hops) 7 h w 1) 8 h w (A 0 8 0)) 9 h w hops
def aTk (A : zAb) (c : Bool) (w h : Nat) : Bool := !decide (A 4 h w = 1) && (c || !decide (A 3 h w = 1))
def aTake (A : zAb) (n s w : Nat) (c : Bool) (hops : Int32) (h : Nat) : zAb := if c = true then aup (aLearn A n h w) 13 22 0 (A 13 22 0 + 1) else aup (aGet A s w h hops) 13 21 0 (A 13 21 0 + 1)
def aPr (A : zAb) (n s w : Nat) (c : Bool) (hops : Int32) (hd : Nat → Bool) : Nat → zAb
  | 0 => A
  | k + 1 => if (hd k && aTk (aPr A n s w c hops hd k) c w k) = true then aTake (aPr A n s w c hops hd k) n s w c hops k else aPr A n s w c hops hd k
def aCb (S Q : zAb) : zAb := fun f i j => if f = 1 ∨ (f = 13 ∧ i = 23) then S f i j else Q f i j
theorem aCb_up {S Q : zAb} {f i j : Nat} {v : Int32} (h1 : f ≠ 1) (h2 : f = 13 → i ≠ 23) : aup (aCb S Q) f i j v = aCb S (aup Q f i j v) := by
  funext f' i' j'
  simp only [aup, aCb]
  repeat' split
  all_goals first | rfl | omega
theorem aOws_cg {A B : zAb} {n h w : Nat} (h4 : ∀ i, i < n ∨ i = h → A 4 i w = B 4 i w) (h5 : ∀ i, i < n ∨ i = h → A 5 i w = B 5 i w) : aOws A n h w = aOws B n h w := by
  unfold aOws
  refine zm_congr (fun i hi => ?_)
  unfold aOw
  rw [h4 i (Or.inl hi), h4 h (Or.inr rfl), h5 i (Or.inl hi), h5 h (Or.inr rfl)]
theorem aLearn_cb {S Q : zAb} {n h w : Nat} : aLearn (aCb S Q) n h w = aCb S (aLearn Q n h w) := by
  have e : aOws (aup (aup (aCb S Q) 4 h w 1) 7 h w 0) n h w = aOws (aup (aup Q 4 h w 1) 7 h w 0) n h w := aOws_cg (fun i _ => by simp [aup, aCb]) (fun i _ => by simp [aup, aCb])
  unfold aLearn
  rw [e, show aCb S Q 0 8 0 = Q 0 8 0 by simp [aCb]]
  split
  · rw [aCb_up (by decide) (fun z => absurd z (by decide)), aCb_up (by decide) (fun z => absurd z (by decide))]
  · rw [aCb_up (by decide) (fun z => absurd z (by decide)), aCb_up (by decide) (fun z => absurd z (by decide)), aCb_up (by decide) (fun z => absurd z (by decide)), aCb_up (by decide) (fun z => absurd z (by decide))]
theorem aGet_cb {S Q : zAb} {s w h : Nat} {hops : Int32} : aGet (aCb S Q) s w h hops = aCb S (aGet Q s w h hops) := by
  unfold aGet
  rw [show aCb S Q 0 8 0 = Q 0 8 0 by simp [aCb], show aCb S Q 0 4 0 = Q 0 4 0 by simp [aCb]]
  split
  · rw [aCb_up (by decide) (fun z => absurd z (by decide)), aCb_up (by decide) (fun z => absurd z (by decide)), aCb_up (by decide) (fun z => absurd z (by decide))]
  · rw [aCb_up (by decide) (fun z => absurd z (by decide)), aCb_up (by decide) (fun z => absurd z (by decide)), aCb_up (by decide) (fun z => absurd z (by decide)), aCb_up (by decide) (fun z => absurd z (by decide)), aCb_up (by decide) (fun z => absurd z (by decide)), aCb_up (by decide) (fun z => absurd z (by decide))]
theorem aTake_cb {S Q : zAb} {n s w h : Nat} {c : Bool} {hops : Int32} : aTake (aCb S Q) n s w c hops h = aCb S (aTake Q n s w c hops h) := by
  unfold aTake
  rw [show aCb S Q 13 22 0 = Q 13 22 0 by simp [aCb], show aCb S Q 13 21 0 = Q 13 21 0 by simp [aCb], aLearn_cb, aGet_cb]
  split
  · rw [aCb_up (by decide) (fun _ => by decide)]
  · rw [aCb_up (by decide) (fun _ => by decide)]
theorem aTake_out {A : zAb} {n s w h : Nat} {c : Bool} {hops : Int32} {f i j : Nat} (hf : f < 3 ∨ f = 12 ∨ (3 ≤ f ∧ f ≤ 11 ∧ ¬ (i = h ∧ j = w))) : aTake A n s w c hops h f i j = A f i j := by
  have a1 : ∀ (B : zAb) (F : Nat) (v : Int32), 3 ≤ F → F ≤ 11 → aup B F h w v f i j = B f i j := fun B F v h1 h2 => by
    rw [aup, if_neg (by omega)]
  have a2 : ∀ (B : zAb) (I : Nat) (v : Int32), aup B 13 I 0 v f i j = B f i j := fun B I v => by
    rw [aup, if_neg (by omega)]
  unfold aTake aLearn aGet
  repeat' split
  all_goals simp [a1, a2]
theorem aPr_out {A : zAb} {n s w : Nat} {c : Bool} {hops : Int32} {hd : Nat → Bool} {f i j : Nat} : ∀ {k : Nat}, (f < 3 ∨ f = 12 ∨ (3 ≤ f ∧ f ≤ 11 ∧ ¬ (i < k ∧ j = w ∧ hd i = true))) → aPr A n s w c hops hd k f i j = A f i j
  | 0, _ => rfl
  | k + 1, hf => by
    have ih := aPr_out (A := A) (n := n) (s := s) (w := w) (c := c) (hops := hops) (hd := hd) (f := f) (i := i) (j := j) (k := k) (hf.imp id (Or.imp id (fun ⟨a, b, c⟩ => ⟨a, b, fun ⟨u, v, z⟩ => c ⟨by omega, v, z⟩⟩)))
    rw [aPr]
    by_cases q : (hd k && aTk (aPr A n s w c hops hd k) c w k) = true
    · rw [if_pos q, aTake_out, ih]
      have q1 : hd k = true := by
        rw [Bool.and_eq_true] at q; exact q.1
      rcases hf with x | x | ⟨x, y, z⟩
      · exact Or.inl x
      · exact Or.inr (Or.inl x)
      · refine Or.inr (Or.inr ⟨x, y, fun ⟨u, v⟩ => z ⟨by omega, v, by rw [u]; exact q1⟩⟩)
    · rw [if_neg q, ih]
def aNv (A : zAb) (s : Nat) (c : Bool) (w : Nat) (hm tm : Int32) (j : Nat) : Int32 := if j = 0 then A 0 8 0 else if j = 1 then nI s else if j = 2 then bI c else if j = 3 then nI w else if j = 4 then hm else tm
def aNote (A : zAb) (s : Nat) (c : Bool) (w : Nat) (hm tm : Int32) : zAb := fun f i j => if f = 12 ∧ i < 30 ∧ j < 6 then (if i = 0 then aNv A s c w hm tm j else A 12 (i - 1) j) else if f = 0 ∧ i = 11 ∧ j = 0 then (if A 0 11 0 + 1 < 30 then A 0 11 0 + 1 else 30) else A f i j
def aPaid (A : zAb) (n m : Nat) : zAb := fun f i j => if f = 10 ∧ i < n ∧ j < m ∧ A 10 i j = 1 ∧ aOws A n i j = 0 then 0 else A f i j
def aSpeak (A : zAb) (n s w : Nat) (c : Bool) : zAb :=
  let B := aSp A s
  let hd := aHd B s
  let hops := B 9 s w + 1
  let N := aNote (aCb (aSd B hd n) (aPr B n s w c hops hd n)) s c w (zm hd n) (zm (fun k => hd k && aTk (aPr B n s w c hops hd k) c w k) n)
  if c = true then aup N 11 s w (A 0 8 0 + 1) else aup N 7 s w 0
def aMin (A : zAb) (n m : Nat) : zAb :=
  let A1 := aBegin A n
  let A3 := if zm (aWish A1 n m) n = 0 then A1 else match aFirst A1 n m (aSpk A1 n m) with
    | some e => aSpeak (aDrawn A1 n m) n (aSpk A1 n m) (e / 2) (decide (e % 2 = 1))
    | none => A1
  aup (aPaid A3 n m) 0 8 0 (A 0 8 0 + 1)
section MP
variable {σ : zSt} {A : zAb} {n m : Nat}
end MP

