/-! X: lanes of wires -/
def bt (x : Int64) (σ : Nat) : Bool := x.toBitVec.getLsbD σ
theorem bt_and (x y : Int64) (σ : Nat) : bt (x &&& y) σ = (bt x σ && bt y σ) := by
  unfold bt; rw [Int64.toBitVec_and, BitVec.getLsbD_and]
theorem bt_or (x y : Int64) (σ : Nat) : bt (x ||| y) σ = (bt x σ || bt y σ) := by
  unfold bt; rw [Int64.toBitVec_or, BitVec.getLsbD_or]
theorem bt_xor (x y : Int64) (σ : Nat) : bt (x ^^^ y) σ = (bt x σ ^^ bt y σ) := by
  unfold bt; rw [Int64.toBitVec_xor, BitVec.getLsbD_xor]
theorem bt_0 (σ : Nat) : bt 0 σ = false := by
  unfold bt
  show (0#64).getLsbD σ = false
  simp
theorem bt_m1 {σ : Nat} (h : σ < 64) : bt (-1) σ = true := by
  unfold bt
  show (BitVec.allOnes 64).getLsbD σ = true
  rw [BitVec.getLsbD_allOnes]; exact decide_eq_true h
theorem bt_not {x : Int64} {σ : Nat} (h : σ < 64) : bt (x ^^^ (-1)) σ = ! bt x σ := by
  rw [bt_xor, bt_m1 h]; simp
theorem bt_cm {x : Int64} {σ : Nat} (h : σ < 64) : bt (~~~x) σ = ! bt x σ := by
  unfold bt; rw [Int64.toBitVec_not, BitVec.getLsbD_not, decide_eq_true h, Bool.true_and]
/-- the number whose bits are these -/
def lvb (b : Nat → Bool) : Nat → Nat
  | 0 => 0
  | w + 1 => lvb b w + (if b w = true then 2 ^ w else 0)
theorem cpL_ap (hl : HL) (a : Nat) (sp : Int32) (b : Nat) (dp n : Int32) (c j : Nat) : cpL hl a sp b dp n c j = if c = 14 + b then va_cpy (hl (14 + a)) (hl (14 + b)) sp.toNatClampNeg dp.toNatClampNeg n.toNatClampNeg j else hl c j := rfl
