/-! the state of both systems: components of ints and of longs, each with an index; point updates; tables of constants -/
abbrev HI : Type := Nat → Nat → Int32
abbrev HL : Type := Nat → Nat → Int64
def u2 {α : Type} (h : Nat → Nat → α) (c j : Nat) (v : α) : Nat → Nat → α := fun a b => if a = c ∧ b = j then v else h a b
def i01 (x : Int32) : Prop := x = 0 ∨ x = 1
def lanesL : List Int64 := [-6148914691236517206, -3689348814741910324, -1085102592571150096, -71777214294589696, -281470681808896, -4294967296]
def lanesC (k : Nat) : Int64 := lanesL.getD k 0
def swL : List Int32 := [1, 2, 3, 8, 10, 24, 15, 11, 12, 13, 25, 26, 27, 28, 29, 30, 0, 16, 17, 18, 19, 9, 20, 21, 14, 22, 23, 4, 5, 6, 7]
def swC (k : Nat) : Int32 := swL.getD k 0
/-- the texts: words of the kinds (0 .. 30), their forms (31 .. 61), bitvec, array -/
def txtL : List (List Int32) := [[115, 111, 114, 116], [105, 110, 112, 117, 116], [115, 116, 97, 116, 101], [99, 111, 110, 115, 116, 100], [110, 111, 116], [110, 101, 103], [114, 101, 100, 111, 114], [97, 110, 100], [111, 114], [120, 111, 114], [97, 100, 100], [115, 117, 98], [109, 117, 108], [117, 100, 105, 118], [117, 114, 101, 109], [115, 108, 108], [115, 114, 108], [101, 113], [117, 108, 116], [115, 108, 116], [99, 111, 110, 99, 97, 116], [115, 108, 105, 99, 101], [117, 101, 120, 116], [115, 101, 120, 116], [105, 116, 101], [114, 101, 97, 100], [119, 114, 105, 116, 101], [105, 110, 105, 116], [110, 101, 120, 116], [98, 97, 100], [99, 111, 110, 115, 116, 114, 97, 105, 110, 116], [], [73], [84], [66, 86], [66, 115], [66, 115], [79, 98], [66, 115, 115], [66, 115, 115], [66, 115, 115], [66, 115, 115], [66, 115, 115], [66, 115, 115], [66, 115, 115], [66, 115, 115], [66, 115, 115], [66, 115, 115], [79, 110, 108], [79, 98, 108], [79, 98, 108], [66, 109, 114], [66, 98, 85, 76], [66, 98, 78], [66, 98, 78], [83, 111, 115, 115], [66, 121, 111], [89, 115, 111, 101], [83, 105, 102], [83, 120, 115], [111], [111], [98, 105, 116, 118, 101, 99], [97, 114, 114, 97, 121]]
def slenN (s : Nat) : Nat := (txtL.getD s []).length
def slenC (s : Nat) : Int32 := nI (slenN s)
def scharC (s j : Nat) : Int32 := (txtL.getD s []).getD j 0
/-- System.arraycopy between two arrays of Gates (cell 14 + k), of six places each -/
def cpL (hl : HL) (a : Nat) (sp : Int32) (b : Nat) (dp n : Int32) : HL := fun c j => if c = 14 + b then va_cpy (hl (14 + a)) (hl (14 + b)) sp.toNatClampNeg dp.toNatClampNeg n.toNatClampNeg j else hl c j
def cpIn (sp dp n : Int32) (L : Nat) : Prop := 0 ≤ sp ∧ 0 ≤ dp ∧ 0 ≤ n ∧ sp.toNatClampNeg + n.toNatClampNeg ≤ L ∧ dp.toNatClampNeg + n.toNatClampNeg ≤ L
