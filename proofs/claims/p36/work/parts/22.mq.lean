/-! what is asked of the abstract state -/
def aQuiet (A : zAb) (h : Nat) (t : Int32) : Bool := if A 1 h 5 = -1 then false else if A 1 h 6 < A 1 h 5 then (decide (A 1 h 5 ≤ t) || !decide (A 1 h 6 < t)) else (!decide (t < A 1 h 5) && !decide (A 1 h 6 < t))
def aT (A : zAb) : Int32 := A 0 8 0 - A 0 8 0 / A 0 5 0 * A 0 5 0
def aDist (A : zAb) (h o : Nat) : Int32 := ((A 1 h 0 - A 1 o 0) * (A 1 h 0 - A 1 o 0)) + ((A 1 h 1 - A 1 o 1) * (A 1 h 1 - A 1 o 1))
def aRng (A : zAb) (h o : Nat) : Bool := !decide (h = o) && !decide (A 1 h 2 * A 1 h 2 < aDist A h o)
def aNear (A : zAb) (n h : Nat) : Int32 := zm (aRng A h) n
def aOw (A : zAb) (h o w : Nat) : Bool := (decide (A 5 h w = nI o) || decide (A 5 o w = nI h)) && decide (A 4 h w = 1) && decide (A 4 o w = 0)
def aOws (A : zAb) (n h w : Nat) : Int32 := zm (fun o => aOw A h o w) n
def aSend (A : zAb) (n h w : Nat) : Bool := !decide (aOws A n h w &&& aNear A n h = 0)
def aCor (A : zAb) (w : Nat) : Bool := !decide (A 2 w 4 = -1)
def aKn (A : zAb) (h w s : Nat) : Bool := if s = 0 then decide (A 3 h w = 1) else if s = 1 then decide (A 4 h w = 1) else (aCor A w && decide (A 3 h w = 1) && decide (A 4 h w = 0))
def zmx (f : Nat → Int32) : Nat → Int32
  | 0 => 0
  | n + 1 => if zmx f n < f n then f n else zmx f n
def zSz (A : zAb) (n m : Nat) : Prop := A 0 6 0 = nI n ∧ A 0 7 0 = nI m ∧ n ≤ 12 ∧ m ≤ 20
section MQ
variable {σ : zSt} {A : zAb} {n m : Nat}
end MQ

