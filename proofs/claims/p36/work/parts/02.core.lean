/-! the state of all cells by numbers: group, offset, place; and the long and the double cells by their offset -/
abbrev zSt : Type := (Nat → Nat → Nat → Int32) × (Nat → Int64) × (Nat → UInt64)
/-- class ids, slots, addresses of the cells by group and offset, array classes (int, boolean, long, double), addresses of the static arrays, the script and the texts; the cells that there are; the script -/
abbrev zLA : Type := (Nat → ClassId) × (Nat → Nat → Nat) × (Nat → Nat → Nat) × (Nat → ClassId) × (Nat → Nat) × List (Nat × Nat) × Nat × (Nat → Int32)
/-- a reference that is there, or not yet -/
def zop (k : Int32) (q : Nat) : Value := if k = 0 then .null else .ref q
def zD (G : zLA) : va_G := (G.1, G.2.1)
def zad (G : zLA) : Nat → Nat → Nat := G.2.2.1
def zaC (G : zLA) : Nat → ClassId := G.2.2.2.1
def zsa (G : zLA) : Nat → Nat := G.2.2.2.2.1
/-- the cells that there are -/
def zL (G : zLA) : List (Nat × Nat) := G.2.2.2.2.2.1
def zLn (G : zLA) : Nat := G.2.2.2.2.2.2.1
def zxs (G : zLA) : Nat → Int32 := G.2.2.2.2.2.2.2
/-- how many places an array cell has, by its offset -/
def zrl : Nat → Nat
  | 2 => 5
  | 5 => 12
  | 7 => 12
  | 9 => 12
  | 11 => 12
  | 13 => 12
  | 15 => 12
  | 17 => 12
  | 19 => 12
  | 21 => 12
  | 23 => 12
  | 26 => 20
  | 28 => 20
  | 30 => 20
  | 32 => 20
  | 34 => 20
  | 36 => 20
  | 38 => 20
  | 40 => 20
  | 42 => 20
  | 45 => 12
  | 47 => 240
  | 50 => 12
  | 52 => 240
  | 54 => 240
  | 56 => 240
  | 58 => 240
  | 61 => 180
  | 74 => 700
  | _ => 0
def zT0 : u_T := fun k => match k with
  | 0 => ("VillageWaves$Entries", "sets", "LVillageWaves$Row;", true)
  | _ => ("VillageWaves$Entries", "times", "LVillageWaves$Row;", true)
def zt0 : Nat → FieldType := fun k => match k with
  | 0 => .object "VillageWaves$Row"
  | _ => .object "VillageWaves$Row"
theorem zn0 : ∀ a, a < 2 → ∀ b, b < 2 → a ≠ b → (zT0 a).2.1 ≠ (zT0 b).2.1 := by decide +kernel
theorem zy0 : ∀ k, k < 2 → parseFieldDescriptor (zT0 k).2.2.1 = some (zt0 k) := by decide +kernel
def zT1 : u_T := fun k => match k with
  | 0 => ("VillageWaves$Homes", "number", "I", false)
  | 1 => ("VillageWaves$Homes", "x", "LVillageWaves$Row;", true)
  | 2 => ("VillageWaves$Homes", "y", "LVillageWaves$Row;", true)
  | 3 => ("VillageWaves$Homes", "range", "LVillageWaves$Row;", true)
  | 4 => ("VillageWaves$Homes", "battery", "LVillageWaves$Row;", true)
  | 5 => ("VillageWaves$Homes", "share", "LVillageWaves$Row;", true)
  | 6 => ("VillageWaves$Homes", "quietFrom", "LVillageWaves$Row;", true)
  | 7 => ("VillageWaves$Homes", "quietTo", "LVillageWaves$Row;", true)
  | 8 => ("VillageWaves$Homes", "spokenToday", "LVillageWaves$Row;", true)
  | 9 => ("VillageWaves$Homes", "spokenEver", "LVillageWaves$Row;", true)
  | _ => ("VillageWaves$Homes", "inRange", "LVillageWaves$Row;", true)
def zt1 : Nat → FieldType := fun k => match k with
  | 0 => .int
  | 1 => .object "VillageWaves$Row"
  | 2 => .object "VillageWaves$Row"
  | 3 => .object "VillageWaves$Row"
  | 4 => .object "VillageWaves$Row"
  | 5 => .object "VillageWaves$Row"
  | 6 => .object "VillageWaves$Row"
  | 7 => .object "VillageWaves$Row"
  | 8 => .object "VillageWaves$Row"
  | 9 => .object "VillageWaves$Row"
  | _ => .object "VillageWaves$Row"
theorem zn1 : ∀ a, a < 11 → ∀ b, b < 11 → a ≠ b → (zT1 a).2.1 ≠ (zT1 b).2.1 := by decide +kernel
theorem zy1 : ∀ k, k < 11 → parseFieldDescriptor (zT1 k).2.2.1 = some (zt1 k) := by decide +kernel
def zT2 : u_T := fun k => match k with
  | 0 => ("VillageWaves$Journal", "total", "I", false)
  | _ => ("VillageWaves$Journal", "facts", "LVillageWaves$Row;", true)
def zt2 : Nat → FieldType := fun k => match k with
  | 0 => .int
  | _ => .object "VillageWaves$Row"
theorem zn2 : ∀ a, a < 2 → ∀ b, b < 2 → a ≠ b → (zT2 a).2.1 ≠ (zT2 b).2.1 := by decide +kernel
theorem zy2 : ∀ k, k < 2 → parseFieldDescriptor (zT2 k).2.2.1 = some (zt2 k) := by decide +kernel
def zT3 : u_T := fun k => match k with
  | 0 => ("VillageWaves$Reader", "text", "LVillageWaves$Text;", true)
  | 1 => ("VillageWaves$Reader", "code", "I", false)
  | _ => ("VillageWaves$Reader", "position", "I", false)
def zt3 : Nat → FieldType := fun k => match k with
  | 0 => .object "VillageWaves$Text"
  | 1 => .int
  | _ => .int
theorem zn3 : ∀ a, a < 3 → ∀ b, b < 3 → a ≠ b → (zT3 a).2.1 ≠ (zT3 b).2.1 := by decide +kernel
theorem zy3 : ∀ k, k < 3 → parseFieldDescriptor (zT3 k).2.2.1 = some (zt3 k) := by decide +kernel
def zT4 : u_T := fun k => match k with
  | _ => ("VillageWaves$Row", "cells", "[I", true)
def zt4 : Nat → FieldType := fun k => match k with
  | _ => .array .int
theorem zn4 : ∀ a, a < 1 → ∀ b, b < 1 → a ≠ b → (zT4 a).2.1 ≠ (zT4 b).2.1 := by decide +kernel
theorem zy4 : ∀ k, k < 1 → parseFieldDescriptor (zT4 k).2.2.1 = some (zt4 k) := by decide +kernel
def zT5 : u_T := fun k => match k with
  | 0 => ("VillageWaves$Text", "bytes", "LVillageWaves$Row;", true)
  | 1 => ("VillageWaves$Text", "length", "I", false)
  | 2 => ("VillageWaves$Text", "kind", "I", false)
  | 3 => ("VillageWaves$Text", "start", "I", false)
  | 4 => ("VillageWaves$Text", "behind", "I", false)
  | _ => ("VillageWaves$Text", "value", "I", false)
def zt5 : Nat → FieldType := fun k => match k with
  | 0 => .object "VillageWaves$Row"
  | 1 => .int
  | 2 => .int
  | 3 => .int
  | 4 => .int
  | _ => .int
theorem zn5 : ∀ a, a < 6 → ∀ b, b < 6 → a ≠ b → (zT5 a).2.1 ≠ (zT5 b).2.1 := by decide +kernel
theorem zy5 : ∀ k, k < 6 → parseFieldDescriptor (zT5 k).2.2.1 = some (zt5 k) := by decide +kernel
def zT6 : u_T := fun k => match k with
  | 0 => ("VillageWaves$Tidings", "number", "I", false)
  | 1 => ("VillageWaves$Tidings", "author", "LVillageWaves$Row;", true)
  | 2 => ("VillageWaves$Tidings", "toldAt", "LVillageWaves$Row;", true)
  | 3 => ("VillageWaves$Tidings", "body", "LVillageWaves$Row;", true)
  | 4 => ("VillageWaves$Tidings", "correctedBody", "LVillageWaves$Row;", true)
  | 5 => ("VillageWaves$Tidings", "corrector", "LVillageWaves$Row;", true)
  | 6 => ("VillageWaves$Tidings", "correctedAt", "LVillageWaves$Row;", true)
  | 7 => ("VillageWaves$Tidings", "knowers", "LVillageWaves$Row;", true)
  | 8 => ("VillageWaves$Tidings", "correctionKnowers", "LVillageWaves$Row;", true)
  | _ => ("VillageWaves$Tidings", "mostHops", "LVillageWaves$Row;", true)
def zt6 : Nat → FieldType := fun k => match k with
  | 0 => .int
  | 1 => .object "VillageWaves$Row"
  | 2 => .object "VillageWaves$Row"
  | 3 => .object "VillageWaves$Row"
  | 4 => .object "VillageWaves$Row"
  | 5 => .object "VillageWaves$Row"
  | 6 => .object "VillageWaves$Row"
  | 7 => .object "VillageWaves$Row"
  | 8 => .object "VillageWaves$Row"
  | _ => .object "VillageWaves$Row"
theorem zn6 : ∀ a, a < 10 → ∀ b, b < 10 → a ≠ b → (zT6 a).2.1 ≠ (zT6 b).2.1 := by decide +kernel
theorem zy6 : ∀ k, k < 10 → parseFieldDescriptor (zT6 k).2.2.1 = some (zt6 k) := by decide +kernel
def zT7 : u_T := fun k => match k with
  | 0 => ("VillageWaves$Village", "day", "I", false)
  | 1 => ("VillageWaves$Village", "time", "I", false)
  | 2 => ("VillageWaves$Village", "lot", "I", false)
  | 3 => ("VillageWaves$Village", "spent", "I", false)
  | 4 => ("VillageWaves$Village", "settings", "LVillageWaves$Row;", true)
  | 5 => ("VillageWaves$Village", "homes", "LVillageWaves$Homes;", true)
  | 6 => ("VillageWaves$Village", "tidings", "LVillageWaves$Tidings;", true)
  | 7 => ("VillageWaves$Village", "newsEntries", "LVillageWaves$Entries;", true)
  | 8 => ("VillageWaves$Village", "correctionEntries", "LVillageWaves$Entries;", true)
  | 9 => ("VillageWaves$Village", "entryHops", "LVillageWaves$Row;", true)
  | 10 => ("VillageWaves$Village", "sources", "LVillageWaves$Row;", true)
  | 11 => ("VillageWaves$Village", "links", "LVillageWaves$Row;", true)
  | _ => ("VillageWaves$Village", "journal", "LVillageWaves$Journal;", true)
def zt7 : Nat → FieldType := fun k => match k with
  | 0 => .int
  | 1 => .int
  | 2 => .int
  | 3 => .int
  | 4 => .object "VillageWaves$Row"
  | 5 => .object "VillageWaves$Homes"
  | 6 => .object "VillageWaves$Tidings"
  | 7 => .object "VillageWaves$Entries"
  | 8 => .object "VillageWaves$Entries"
  | 9 => .object "VillageWaves$Row"
  | 10 => .object "VillageWaves$Row"
  | 11 => .object "VillageWaves$Row"
  | _ => .object "VillageWaves$Journal"
theorem zn7 : ∀ a, a < 13 → ∀ b, b < 13 → a ≠ b → (zT7 a).2.1 ≠ (zT7 b).2.1 := by decide +kernel
theorem zy7 : ∀ k, k < 13 → parseFieldDescriptor (zT7 k).2.2.1 = some (zt7 k) := by decide +kernel
def zT8 : u_T := fun k => match k with
  | 0 => ("VillageWaves", "now", "LVillageWaves$Village;", true)
  | 1 => ("VillageWaves", "draft", "LVillageWaves$Village;", true)
  | 2 => ("VillageWaves", "firstSaved", "LVillageWaves$Village;", true)
  | 3 => ("VillageWaves", "secondSaved", "LVillageWaves$Village;", true)
  | 4 => ("VillageWaves", "savedSlots", "I", false)
  | _ => ("VillageWaves", "reader", "LVillageWaves$Reader;", true)
def zt8 : Nat → FieldType := fun k => match k with
  | 0 => .object "VillageWaves$Village"
  | 1 => .object "VillageWaves$Village"
  | 2 => .object "VillageWaves$Village"
  | 3 => .object "VillageWaves$Village"
  | 4 => .int
  | _ => .object "VillageWaves$Reader"
theorem zn8 : ∀ a, a < 6 → ∀ b, b < 6 → a ≠ b → (zT8 a).2.1 ≠ (zT8 b).2.1 := by decide +kernel
theorem zy8 : ∀ k, k < 6 → parseFieldDescriptor (zT8 k).2.2.1 = some (zt8 k) := by decide +kernel
def zT9 : u_T := fun k => match k with
  | 0 => ("VillageWavesLaw", "x", "LVillageWaves;", true)
  | 1 => ("VillageWavesLaw", "ints", "[I", false)
  | _ => ("VillageWavesLaw", "next", "I", false)
def zt9 : Nat → FieldType := fun k => match k with
  | 0 => .object "VillageWaves"
  | 1 => .array .int
  | _ => .int
theorem zn9 : ∀ a, a < 3 → ∀ b, b < 3 → a ≠ b → (zT9 a).2.1 ≠ (zT9 b).2.1 := by decide +kernel
theorem zy9 : ∀ k, k < 3 → parseFieldDescriptor (zT9 k).2.2.1 = some (zt9 k) := by decide +kernel
abbrev zcl : List vw_C := [("VillageWaves$Entries", zT0, 2), ("VillageWaves$Homes", zT1, 11), ("VillageWaves$Journal", zT2, 2), ("VillageWaves$Reader", zT3, 3), ("VillageWaves$Row", zT4, 1), ("VillageWaves$Text", zT5, 6), ("VillageWaves$Tidings", zT6, 10), ("VillageWaves$Village", zT7, 13), ("VillageWaves", zT8, 6), ("VillageWavesLaw", zT9, 3)]
def zty (G : zLA) : List (ClassId × FieldType) := [(zaC G 0, .int)]
/-- what the cell at an offset is, out of its own numbers -/
def zshp (G : zLA) (g o : Nat) (f : Nat → Int32) (w : Int64) (d : UInt64) : va_E := match o with
  | 0 => .inr (7, [.int (f 0), .int (f 1), .int (f 2), .int (f 3), .ref (zad G g 1), .ref (zad G g 3), .ref (zad G g 24), .ref (zad G g 43), .ref (zad G g 48), .ref (zad G g 53), .ref (zad G g 55), .ref (zad G g 57), .ref (zad G g 59)])
  | 1 => .inr (4, [.ref (zad G g 2)])
  | 3 => .inr (1, [.int (f 0), .ref (zad G g 4), .ref (zad G g 6), .ref (zad G g 8), .ref (zad G g 10), .ref (zad G g 12), .ref (zad G g 14), .ref (zad G g 16), .ref (zad G g 18), .ref (zad G g 20), .ref (zad G g 22)])
  | 4 => .inr (4, [.ref (zad G g 5)])
  | 6 => .inr (4, [.ref (zad G g 7)])
  | 8 => .inr (4, [.ref (zad G g 9)])
  | 10 => .inr (4, [.ref (zad G g 11)])
  | 12 => .inr (4, [.ref (zad G g 13)])
  | 14 => .inr (4, [.ref (zad G g 15)])
  | 16 => .inr (4, [.ref (zad G g 17)])
  | 18 => .inr (4, [.ref (zad G g 19)])
  | 20 => .inr (4, [.ref (zad G g 21)])
  | 22 => .inr (4, [.ref (zad G g 23)])
  | 24 => .inr (6, [.int (f 0), .ref (zad G g 25), .ref (zad G g 27), .ref (zad G g 29), .ref (zad G g 31), .ref (zad G g 33), .ref (zad G g 35), .ref (zad G g 37), .ref (zad G g 39), .ref (zad G g 41)])
  | 25 => .inr (4, [.ref (zad G g 26)])
  | 27 => .inr (4, [.ref (zad G g 28)])
  | 29 => .inr (4, [.ref (zad G g 30)])
  | 31 => .inr (4, [.ref (zad G g 32)])
  | 33 => .inr (4, [.ref (zad G g 34)])
  | 35 => .inr (4, [.ref (zad G g 36)])
  | 37 => .inr (4, [.ref (zad G g 38)])
  | 39 => .inr (4, [.ref (zad G g 40)])
  | 41 => .inr (4, [.ref (zad G g 42)])
  | 43 => .inr (0, [.ref (zad G g 44), .ref (zad G g 46)])
  | 44 => .inr (4, [.ref (zad G g 45)])
  | 46 => .inr (4, [.ref (zad G g 47)])
  | 48 => .inr (0, [.ref (zad G g 49), .ref (zad G g 51)])
  | 49 => .inr (4, [.ref (zad G g 50)])
  | 51 => .inr (4, [.ref (zad G g 52)])
  | 53 => .inr (4, [.ref (zad G g 54)])
  | 55 => .inr (4, [.ref (zad G g 56)])
  | 57 => .inr (4, [.ref (zad G g 58)])
  | 59 => .inr (2, [.int (f 0), .ref (zad G g 60)])
  | 60 => .inr (4, [.ref (zad G g 61)])
  | 70 => .inr (8, [.ref (zad G 0 0), .ref (zad G 1 0), .ref (zad G 2 0), .ref (zad G 3 0), .int (f 4), .ref (zad G g 71)])
  | 71 => .inr (3, [.ref (zad G g 72), .int (f 1), .int (f 2)])
  | 72 => .inr (5, [.ref (zad G g 73), .int (f 1), .int (f 2), .int (f 3), .int (f 4), .int (f 5)])
  | 73 => .inr (4, [.ref (zad G g 74)])
  | 80 => .inr (9, [.ref (zad G 4 70), zop (f 1) (zsa G 3), .int (f 2)])
  | 2 => .inl (zaC G 0, 5, .inl f)
  | 5 => .inl (zaC G 0, 12, .inl f)
  | 7 => .inl (zaC G 0, 12, .inl f)
  | 9 => .inl (zaC G 0, 12, .inl f)
  | 11 => .inl (zaC G 0, 12, .inl f)
  | 13 => .inl (zaC G 0, 12, .inl f)
  | 15 => .inl (zaC G 0, 12, .inl f)
  | 17 => .inl (zaC G 0, 12, .inl f)
  | 19 => .inl (zaC G 0, 12, .inl f)
  | 21 => .inl (zaC G 0, 12, .inl f)
  | 23 => .inl (zaC G 0, 12, .inl f)
  | 26 => .inl (zaC G 0, 20, .inl f)
  | 28 => .inl (zaC G 0, 20, .inl f)
  | 30 => .inl (zaC G 0, 20, .inl f)
  | 32 => .inl (zaC G 0, 20, .inl f)
  | 34 => .inl (zaC G 0, 20, .inl f)
  | 36 => .inl (zaC G 0, 20, .inl f)
  | 38 => .inl (zaC G 0, 20, .inl f)
  | 40 => .inl (zaC G 0, 20, .inl f)
  | 42 => .inl (zaC G 0, 20, .inl f)
  | 45 => .inl (zaC G 0, 12, .inl f)
  | 47 => .inl (zaC G 0, 240, .inl f)
  | 50 => .inl (zaC G 0, 12, .inl f)
  | 52 => .inl (zaC G 0, 240, .inl f)
  | 54 => .inl (zaC G 0, 240, .inl f)
  | 56 => .inl (zaC G 0, 240, .inl f)
  | 58 => .inl (zaC G 0, 240, .inl f)
  | 61 => .inl (zaC G 0, 180, .inl f)
  | 74 => .inl (zaC G 0, 700, .inl f)
  | _ => .inl (zaC G 0, 0, .inl f)
abbrev zct (G : zLA) (σ : zSt) (g o : Nat) : va_E := zshp G g o (σ.1 g o) (σ.2.1 o) (σ.2.2 o)
def zcells : List (Nat × Nat) := (List.range 4).flatMap (fun v => (List.range 62).map (fun o => (v, o))) ++ [70, 71, 72, 73, 74, 80].map (fun o => (4, o))
def zwd (G : zLA) (σ : zSt) : va_W := (zL G).map (fun q => (zad G q.1 q.2, zct G σ q.1 q.2))
/-- each cell once; three offsets in one group alone -/
def zLok (L : List (Nat × Nat)) : Prop := L.Nodup ∧ ∀ x ∈ L, (x.2 = 80 ∨ x.2 = 95 ∨ x.2 = 96) → x.1 = 4
def zrows : List Nat := [1, 4, 6, 8, 10, 12, 14, 16, 18, 20, 22, 25, 27, 29, 31, 33, 35, 37, 39, 41, 44, 46, 49, 51, 53, 55, 57, 60, 73]
def zs1 : Nat → String := fun i => ["VillageWaves", "VillageWaves", "VillageWaves", "VillageWaves", "VillageWaves", "VillageWaves", "VillageWaves", "VillageWaves"].getD i ""
def zs2 : Nat → Nat := fun i => [349, 87, 345, 101, 347, 280, 224, 343].getD i 0
def zs3 : Nat → String := fun i => ["a parameter is out of range", "there are 12 houses", "there is no such house", "just one of both is NONE", "there is no such news", "the index is negative", "there is no such entry", "nothing is saved there"].getD i ""
def zfn : Nat → String := fun i => ["FIRST_VALUES", "LEAST_VALUES", "MOST_VALUES"].getD i ""
def zfv : Nat → List Int32 := fun i => [[5, 1, 40, 10, 11], [1, 0, 0, 1, 0], [50, 20, 200, 99, 11]].getD i []
/-- the static facts: the static arrays, the script, the texts, the two statics of Throwable; A: what may change -/
def zSF (G : zLA) (A : Nat → Prop) (U : State) (H : Heap) : Prop :=
  (∀ i, i < 3 → va_Z "VillageWaves" (zfn i) "[I" (.ref (zsa G i)) A U H ∧ va_T .int (zsa G i) 5 (fun k => .int ((zfv i).getD k 0)) A U H) ∧
  va_T .int (zsa G 3) (zLn G) (fun k => .int (zxs G k)) A U H ∧
  (∀ i, i < 8 → vk_R (zs1 i) (zs2 i) (zs3 i) (zsa G (10 + i)) U) ∧
  vx_Zq Bundle.tN "UNASSIGNED_STACK" Bundle.steD A U H ∧ vx_Zq Bundle.tN "SUPPRESSED_SENTINEL" Bundle.listD A U H
theorem zSF.go {G : zLA} {A B : Nat → Prop} {s U : State} {H H1 : Heap} (h : zSF G A s H) (hW : s.WarmedH U.vm) (hq : ∀ a : Nat, a < H.size → ¬ A a → H1[a]? = H[a]?) (hAB : ∀ q, B q → A q) : zSF G B U H1 := by
  obtain ⟨h1, h2, h3, h4, h5⟩ := h
  have hv := hW.alike
  exact ⟨fun i hi => ⟨(va_Z.moved hv ((h1 i hi).1.kept hq)).narrow hAB, (va_T.moved hv ((h1 i hi).2.kept hq)).narrow hAB⟩,
    (va_T.moved hv (h2.kept hq)).narrow hAB,
    fun i hi => vk_R.warm hW (h3 i hi), (vx_Zq.moved hv (h4.kept hq)).narrow hAB, (vx_Zq.moved hv (h5.kept hq)).narrow hAB⟩
theorem zSF.calling {G : zLA} {A : Nat → Prop} {U : State} {H : Heap} {g : JFrame} {mk : MethodId} {a : Array Value} (h : zSF G A U H) : zSF G A (U.calling g mk a) H := by
  obtain ⟨h1, h2, h3, h4, h5⟩ := h
  have hv : U.vm.Alike (U.calling g mk a).vm := Vm.Alike.refl U.vm
  exact ⟨fun i hi => ⟨va_Z.moved hv (h1 i hi).1, va_T.moved hv (h1 i hi).2⟩,
    va_T.moved hv h2,
    fun i hi => vk_R.same (u := U) (U := U.calling g mk a) rfl (h3 i hi), vx_Zq.moved hv h4, vx_Zq.moved hv h5⟩
/-- the tables' words that any call keeps -/
def zGW : List Cond := lw_tbl.filter goodWord
theorem zgw {w : Cond} (i : Nat) (h : lw_tbl[i]? = some w) (hg : goodWord w = true) : w ∈ zGW := List.mem_filter.mpr ⟨List.mem_of_getElem? h, hg⟩
def zisN : Cond → Bool
  | .fieldLinkNest .. => true
  | .methodLinkNest .. => true
  | .declares _ => true
  | .castable .. => true
  | _ => false
def zNW : List Cond := lw_tbl.filter zisN
theorem znw {w : Cond} (i : Nat) (h : lw_tbl[i]? = some w) (hg : zisN w = true) : w ∈ zNW := List.mem_filter.mpr ⟨List.mem_of_getElem? h, hg⟩
theorem zNW_warm {s U : State} (hW : s.WarmedH U.vm) (h : ∀ w ∈ zNW, va_Nw w s) : ∀ w ∈ zNW, va_Nw w U := by
  intro w hw
  have h1 := h w hw
  have h2 := (List.mem_filter.mp hw).2
  cases w <;> first | exact va_Nw.warmF hW h1 | exact va_Nw.warmM hW h1 | exact va_Nw.warmD hW h1 | exact va_Nw.warmC hW h1 | cases h2
/-- the cells that a method may change: the world's, and new ones -/
def zA (G : zLA) (sz : Nat) : Nat → Prop := fun q => (∃ x ∈ zL G, q = zad G x.1 x.2) ∨ sz ≤ q
theorem zA.mono {G : zLA} {a b : Nat} (h : a ≤ b) : ∀ q, zA G b q → zA G a q := fun q hq => hq.elim Or.inl (fun x => Or.inr (Nat.le_trans h x))
theorem zwd_at (G : zLA) (σ : zSt) {k g o : Nat} (hk : (zL G)[k]? = some (g, o)) : (zwd G σ)[k]? = some (zad G g o, zct G σ g o) := by
  rw [zwd, List.getElem?_map, hk]; rfl
theorem zwd_of {G : zLA} {σ : zSt} {k : Nat} {q : Nat × va_E} (h : (zwd G σ)[k]? = some q) : ∃ x : Nat × Nat, (zL G)[k]? = some x ∧ q = (zad G x.1 x.2, zct G σ x.1 x.2) := by
  rw [zwd, List.getElem?_map] at h
  cases hx : (zL G)[k]? with
  | none => rw [hx] at h; cases h
  | some x => rw [hx] at h; exact ⟨x, rfl, (Option.some.inj h).symm⟩
theorem zin {G : zLA} {g o : Nat} (h : (g, o) ∈ zL G) : ∃ k : Nat, (zL G)[k]? = some (g, o) := List.getElem?_of_mem h
set_option maxRecDepth 100000 in
theorem zcells_ok : zLok zcells := ⟨by decide +kernel, by decide +kernel⟩
theorem zcell_inj {G : zLA} (znd : zLok (zL G)) {i j : Nat} {x : Nat × Nat} (h1 : (zL G)[i]? = some x) (h2 : (zL G)[j]? = some x) : i = j :=
  (List.getElem?_inj (List.getElem?_eq_some_iff.mp h1).1 znd.1).mp (h1.trans h2.symm)
theorem zwd_set {G : zLA} (znd : zLok (zL G)) {σ σ' : zSt} {k g o : Nat} {e : va_E} (hk : (zL G)[k]? = some (g, o)) (he : e = zct G σ' g o) (ho : ∀ g' o' : Nat, (g', o') ∈ zL G → (g', o') ≠ (g, o) → zct G σ' g' o' = zct G σ g' o') : (zwd G σ).set k (zad G g o, e) = zwd G σ' := by
  subst he
  apply List.ext_getElem?
  intro i
  by_cases hi : i = k
  · subst hi
    have hl := (List.getElem?_eq_some_iff.mp (zwd_at G σ hk)).1
    rw [List.getElem?_set_self hl, zwd_at G σ' hk]
  · rw [List.getElem?_set_ne (Ne.symm hi), zwd, zwd, List.getElem?_map, List.getElem?_map]
    cases hx : (zL G)[i]? with
    | none => rfl
    | some x =>
      have hne : (x.1, x.2) ≠ (g, o) := fun e => hi (zcell_inj znd (x := (g, o)) (by rw [hx]; exact congrArg some e) hk)
      show some (zad G x.1 x.2, zct G σ x.1 x.2) = some (zad G x.1 x.2, zct G σ' x.1 x.2)
      rw [ho x.1 x.2 (List.mem_of_getElem? hx) hne]
/-- writing an int -/
def zup (f : Nat → Nat → Nat → Int32) (g o i : Nat) (v : Int32) : Nat → Nat → Nat → Int32 := fun g' o' => if (g', o') = (g, o) then upd (f g o) i v else f g' o'
def zst (σ : zSt) (g o i : Nat) (v : Int32) : zSt := (zup σ.1 g o i v, σ.2)
def zsl (σ : zSt) (o : Nat) (x : Int64) : zSt := (σ.1, fun o' => if o' = o then x else σ.2.1 o', σ.2.2)
def zsd (σ : zSt) (o : Nat) (x : UInt64) : zSt := (σ.1, σ.2.1, fun o' => if o' = o then x else σ.2.2 o')
theorem zup_self (f : Nat → Nat → Nat → Int32) (g o i : Nat) (v : Int32) : zup f g o i v g o = upd (f g o) i v := by simp [zup]
theorem zup_ne (f : Nat → Nat → Nat → Int32) {g o : Nat} (i : Nat) (v : Int32) {g' o' : Nat} (h : (g', o') ≠ (g, o)) : zup f g o i v g' o' = f g' o' := by rw [zup, if_neg h]
theorem zct_st {G : zLA} {σ : zSt} {g o i : Nat} {v : Int32} {g' o' : Nat} (h : (g', o') ≠ (g, o)) : zct G (zst σ g o i v) g' o' = zct G σ g' o' := by
  show zshp G g' o' (zup σ.1 g o i v g' o') _ _ = _
  rw [zup_ne _ _ _ h]; rfl
theorem zct_st_self {G : zLA} {σ : zSt} {g o i : Nat} {v : Int32} : zct G (zst σ g o i v) g o = zshp G g o (upd (σ.1 g o) i v) (σ.2.1 o) (σ.2.2 o) := by
  show zshp G g o (zup σ.1 g o i v g o) _ _ = _
  rw [zup_self]; rfl
/-- addresses don't depend on the numbers -/
theorem zD_any {G : zLA} {A : Nat → Prop} {σ σ' : zSt} (h : va_D A (zwd G σ)) : va_D A (zwd G σ') := by
  refine ⟨fun i j p q hi hj hpq => ?_, fun k q hk => ?_⟩
  · obtain ⟨x, hx, rfl⟩ := zwd_of hi
    obtain ⟨y, hy, rfl⟩ := zwd_of hj
    exact h.1 i j _ _ (zwd_at G σ hx) (zwd_at G σ hy) hpq
  · obtain ⟨x, hx, rfl⟩ := zwd_of hk
    exact h.2 k (zad G x.1 x.2, zct G σ x.1 x.2) (zwd_at G σ hx)
theorem zD_A {G : zLA} {A : Nat → Prop} {σ : zSt} {sz : Nat} (h : va_D A (zwd G σ)) : va_D (zA G sz) (zwd G σ) := by
  refine ⟨h.1, fun k q hk => ?_⟩
  obtain ⟨x, hx, rfl⟩ := zwd_of hk
  exact Or.inl ⟨x, List.mem_of_getElem? hx, rfl⟩
section ZW
variable {G : zLA} {p : Program} {l : Launch} {e : Env} {R : Room} {s : State} {m : MethodId} {args : Array Value} {below : List Frame} {meth : Method} {c : Code} {cells slots : Nat} {Q : State → Prop}
variable {own : String} {cc : ByteArray} {nL : Nat} {ret : Option FieldType} {pc : Nat} {lv : List (Nat × Value)} {st : List Value} {σ : zSt}
/-- what holds all through a method's walk -/
def zCx (G : zLA) (p : Program) (s : State) (m : MethodId) (args : Array Value) (meth : Method) (c : Code) (own : String) (cc : ByteArray) (nL : Nat) (ret : Option FieldType) : Prop :=
  p.tables.exec = Jvm.exec ∧ c.code = cc ∧ c.maxLocals = nL ∧ meth.sig.returnType = ret ∧ meth.locks = false ∧ s.vm.findClass own = some m.cls ∧ (∀ w ∈ zGW, w.before args s = true) ∧ (∀ w ∈ zNW, va_Nw w s) ∧ va_K (zD G) zcl (zty G) s ∧ zSF G (zA G s.heap.size) s s.heap ∧ zLok (zL G)
theorem zCx.x (C : zCx G p s m args meth c own cc nL ret) : p.tables.exec = Jvm.exec := C.1
theorem zCx.b (C : zCx G p s m args meth c own cc nL ret) : c.code = cc := C.2.1
theorem zCx.n (C : zCx G p s m args meth c own cc nL ret) : c.maxLocals = nL := C.2.2.1
theorem zCx.r (C : zCx G p s m args meth c own cc nL ret) : meth.sig.returnType = ret := C.2.2.2.1
theorem zCx.k (C : zCx G p s m args meth c own cc nL ret) : meth.locks = false := C.2.2.2.2.1
theorem zCx.o (C : zCx G p s m args meth c own cc nL ret) : s.vm.findClass own = some m.cls := C.2.2.2.2.2.1
theorem zCx.t (C : zCx G p s m args meth c own cc nL ret) : ∀ w ∈ zGW, w.before args s = true := C.2.2.2.2.2.2.1
theorem zCx.w (C : zCx G p s m args meth c own cc nL ret) : ∀ w ∈ zNW, va_Nw w s := C.2.2.2.2.2.2.2.1
theorem zCx.K (C : zCx G p s m args meth c own cc nL ret) : va_K (zD G) zcl (zty G) s := C.2.2.2.2.2.2.2.2.1
theorem zCx.F (C : zCx G p s m args meth c own cc nL ret) : zSF G (zA G s.heap.size) s s.heap := C.2.2.2.2.2.2.2.2.2.1
theorem zCx.L (C : zCx G p s m args meth c own cc nL ret) : zLok (zL G) := C.2.2.2.2.2.2.2.2.2.2
/-- at pc, with these locals, this stack, the world at σ: Q is reached -/
def zWV (G : zLA) (p : Program) (l : Launch) (e : Env) (R : Room) (s : State) (m : MethodId) (args : Array Value) (below : List Frame) (meth : Method) (c : Code) (nL cells slots : Nat) (Q : State → Prop) (pc : Nat) (lv : List (Nat × Value)) (st : List Value) (σ : zSt) : Prop :=
  ∀ (ls : Array Slot) (H : Heap) (locs : List Loc), lv_has ls nL lv → va_P (zD G) zcl (zwd G σ) H → va_D (zA G s.heap.size) (zwd G σ) → va_S (zA G s.heap.size) s.heap H locs → W p l e R s m args below meth c H locs cells slots Q (F0 m pc ls st)
end ZW

