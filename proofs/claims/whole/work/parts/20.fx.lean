/-! THE MEMORY'S FIXED PART: after the constructors, places below 57 keep their kinds, lengths and final fields -/
def fxK : List Nat := [30, 30, 30, 30, 30, 30, 30, 30, 30, 30, 30, 30, 30, 31, 31, 31, 31, 31, 31, 31, 31, 31, 31, 31, 31, 31, 32, 33, 11, 10, 23, 24, 24, 25, 10, 23, 24, 24, 25, 5, 24, 20, 9, 20, 21, 22, 12, 20, 20, 20, 22, 21, 21, 20, 20, 22, 20]
def fxN : List (Option Nat) := [some 0, some 0, some 0, some 0, some 0, some 0, some 0, some 0, some 0, some 0, some 0, some 0, some 0, some 0, some 4, some 4, some 4, some 3, some 3, some 5, some 4, some 5, some 3, some 5, some 4, some 5, none, some 0, some 0, some 0, some 100, some 0, some 5, some 5, some 0, some 100, some 0, some 5, some 5, some 0, some 10, some 100, some 0, some 20, some 4, some 256, some 0, some 1562, some 1562, some 5, some 64, some 16, some 4, some 4, some 16, some 256, some 20]
def fxR : List (List (Option Nat)) := [[some 13], [some 14], [some 15], [some 16], [some 17], [some 18], [some 19], [some 20], [some 21], [some 22], [some 23], [some 24], [some 25], [], [], [], [], [], [], [], [], [], [], [], [], [], [], [], [some 29, some 34, some 39, some 42, some 44, some 45], [some 30, none, none, none, some 32, none, some 33], [], [], [], [], [some 35, none, none, none, some 37, none, some 38], [], [], [], [], [some 29, some 40, some 41], [], [], [some 43], [], [], [], [none, some 47, some 48, none, none, none, none, none, none, none, some 49, some 50, none, none, none, some 51, some 52, some 53, some 54, some 55, some 56], [], [], [], [], [], [], [], [], [], []]
def nxt (o : Option Nat) (x : Nat) : Nat := match o with
  | some y => y
  | none => x
def nxo (o : Option Nat) (x : Option Nat) : Option Nat := match o with
  | some y => some y
  | none => x
def fx (ν : MM) : MM := (fun q => nxt fxK[q]? (shp ν q), fun q => nxt (fxN.getD q none) (aln ν q), msz ν + 57, msl ν, ν.2.2.2.2.1, ν.2.2.2.2.2.1, fun q k => nxo ((fxR.getD q []).getD k none) (gR ν q k))
theorem sR_self {ν : MM} {q k a : Nat} (h : gR ν q k = some a) : sR ν q k (some a) = ν := by
  have e : (fun x b => if x = q ∧ b = k then some a else gR ν x b) = gR ν := by
    funext x b
    by_cases c : x = q ∧ b = k
    · rw [if_pos c, c.1, c.2, h]
    · rw [if_neg c]
  show (ν.1, ν.2.1, ν.2.2.1, ν.2.2.2.1, ν.2.2.2.2.1, ν.2.2.2.2.2.1, fun x b => if x = q ∧ b = k then some a else gR ν x b) = ν
  rw [e]
  rfl
