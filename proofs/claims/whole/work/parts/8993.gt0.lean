/-! X: lanes of wires -/
def bt (x : Int64) (σ : Nat) : Bool := x.toBitVec.getLsbD σ
theorem bt_and (x y : Int64) (σ : Nat) : bt (x &&& y) σ = (bt x σ && bt y σ) := by
  unfold bt; rw [Int64.toBitVec_and, BitVec.getLsbD_and]
theorem bt_or (x y : Int64) (σ : Nat) : bt (x ||| y) σ = (bt x σ || bt y σ) := by
  unfold bt; rw [Int64.toBitVec_or, BitVec.getLsbD_or]
theorem bt_xor (x y : Int64) (σ : Nat) : bt (x ^^^ y) σ = (bt x σ ^^ bt y σ) := by
  unfold bt; rw [Int64.toBitVec_xor, BitVec.getLsbD_xor]
theorem bt_0 (σ : Nat) : bt 0 σ = false := by
  unfold bt
  show (0#64).getLsbD σ = false
  simp
theorem bt_m1 {σ : Nat} (h : σ < 64) : bt (-1) σ = true := by
  unfold bt
  show (BitVec.allOnes 64).getLsbD σ = true
  rw [BitVec.getLsbD_allOnes]; exact decide_eq_true h
theorem bt_not {x : Int64} {σ : Nat} (h : σ < 64) : bt (x ^^^ (-1)) σ = ! bt x σ := by
  rw [bt_xor, bt_m1 h]; simp
theorem bt_cm {x : Int64} {σ : Nat} (h : σ < 64) : bt (~~~x) σ = ! bt x σ := by
  unfold bt; rw [Int64.toBitVec_not, BitVec.getLsbD_not, decide_eq_true h, Bool.true_and]
/-- the number whose bits are these -/
def lvb (b : Nat → Bool) : Nat → Nat
  | 0 => 0
  | w + 1 => lvb b w + (if b w = true then 2 ^ w else 0)
theorem cpL_ap (hl : HL) (a : Nat) (sp : Int32) (b : Nat) (dp n : Int32) (c j : Nat) : cpL hl a sp b dp n c j = if c = 14 + b then va_cpy (hl (14 + a)) (hl (14 + b)) sp.toNatClampNeg dp.toNatClampNeg n.toNatClampNeg j else hl c j := rfl
theorem shl_0 : (1 : Int32) <<< ((0 : Int32) &&& 31) = 1 := by decide
theorem shl_1 : (1 : Int32) <<< ((1 : Int32) &&& 31) = 2 := by decide
theorem shl_2 : (1 : Int32) <<< ((2 : Int32) &&& 31) = 4 := by decide
theorem sh64 : ∀ s, s ∈ List.range 64 → ((((nI s).toInt64.toUInt64 &&& Int64.toUInt64 63).toBitVec % 64).toNat = s) := by decide +kernel
theorem pX_has (x : Int64) (s : Nat) (hs : s < 64) (hx : HI) (hl : HL) (Φ : Int32 → HI → HL → Prop) : wpC_has x (nI s) hx hl Φ = Φ (bI (bt x s)) hx hl := by
  have key : (((x.toUInt64 >>> ((nI s).toInt64.toUInt64 &&& Int64.toUInt64 63)).toInt64 &&& (1 : Int64)) = 0) ↔ bt x s = false := by
    have e : ((x.toUInt64 >>> ((nI s).toInt64.toUInt64 &&& Int64.toUInt64 63)).toInt64 &&& (1 : Int64)).toBitVec = (x.toBitVec >>> s) &&& 1#64 := by
      show (x.toBitVec >>> (((nI s).toInt64.toUInt64 &&& Int64.toUInt64 63).toBitVec % 64).toNat) &&& 1#64 = _
      rw [sh64 s (List.mem_range.mpr hs)]
    constructor
    · intro h
      rw [h] at e
      have e0 : (0 : Int64).toBitVec = 0#64 := rfl
      rw [e0] at e
      have := congrArg (fun z : BitVec 64 => z.getLsbD 0) e
      simp [BitVec.getLsbD_ushiftRight] at this
      unfold bt
      simpa using this
    · intro h
      apply Int64.toBitVec_inj.mp
      rw [e]
      have e0 : (0 : Int64).toBitVec = 0#64 := rfl
      rw [e0]
      apply BitVec.eq_of_getLsbD_eq
      intro i hi
      rw [BitVec.getLsbD_and, BitVec.getLsbD_ushiftRight]
      by_cases c : i = 0
      · subst c
        unfold bt at h
        rw [Nat.add_zero, h]; simp
      · have : (1#64).getLsbD i = false := by
          rw [BitVec.getLsbD_one]; simp [c]
        rw [this]; simp
  unfold wpC_has wbC_has_0
  rw [lg_cmp_eq]
  cases b : bt x s
  · have k := key.mpr b
    simp only [k, true_implies, not_true, false_implies, and_true, bI_f, i01_0, true_and]
  · have k : ¬ _ := fun z => absurd (key.mp z) (by rw [b]; decide)
    simp only [k, false_implies, not_false_eq_true, true_implies, true_and, bI_t, i01_1]
theorem pG_constant (hi : HI) (hl : HL) (Φ : HI → HL → Prop) (W u : Nat) (hW : W ≤ 6) (h6 : hi 13 6 = nI W) (h : ∀ hl', (∀ c, c ≠ 17 → hl' c = hl c) → (∀ j, j < W → hl' 17 j = if bt (nI u).toInt64 j = true then -1 else 0) → Φ hi hl') : wpG_constant (nI u) hi hl Φ := by
  unfold wpG_constant wbG_constant_0
  refine loop_0 (fun fu i (s : HL) => wbG_constant_2 fu (nI u) (nI i) hi s Φ) (fun i s => (∀ c, c ≠ 17 → s c = hl c) ∧ ∀ j, j < i → s 17 j = if bt (nI u).toInt64 j = true then -1 else 0) W hl ⟨fun _ _ => rfl, fun j hj => absurd hj (by omega)⟩ (fun m s hs => ?_) (fun m i s hi2 hs ih => ?_)
  · unfold wbG_constant_2
    exact br_t (by rw [h6]; exact nI_le (Nat.le_refl _) (by omega)) (h s hs.1 hs.2)
  · unfold wbG_constant_2 wbG_constant_31
    refine br_f (by rw [h6]; exact nI_ge hi2 (by omega)) ?_
    rw [pX_has _ i (by omega), nI_clamp (by omega), nI_n1, nI_1]
    have fin : ∀ x : Int64, x = (if bt (nI u).toInt64 i = true then -1 else 0) → wbG_constant_2 m (nI u) (nI (i + 1)) hi (u2 s (14 + 3) i x) Φ := fun x hx => by
      refine ih _ ⟨fun c hc => ?_, fun j hj => ?_⟩
      · rw [u2_cf _ _ _ (by omega)]; exact hs.1 c hc
      · by_cases z : j = i
        · subst z; rw [u2_s]; exact hx
        · rw [u2_j _ _ _ _ z]; exact hs.2 j (by omega)
    refine br_c (fun q => ⟨vp_in_nI (by omega) (by omega), fin 0 ?_⟩) (fun q => ⟨vp_in_nI (by omega) (by omega), fin (-1) ?_⟩)
    · rw [bI_0] at q; rw [q]; rfl
    · rw [bI_ne] at q; rw [q]; rfl
theorem bt_u : ∀ u, u ∈ List.range 8 → ∀ j, j ∈ List.range 6 → bt (nI u).toInt64 j = u.testBit j := by decide +kernel
theorem jn_3 (hi : HI) (hl : HL) (Φ : HI → HL → Prop) (W u : Nat) (hW : W ≤ 3) (hu : u < 8) (ew eW eb el ex ey ez : Int32) (h3 : hi 10 3 = 3) (h6 : hi 13 6 = nI W) (h9 : hi 10 9 = nI u)
    (h : ∀ hl', (∀ c, (c < 14 ∨ 19 < c) → hl' c = hl c) → (∀ σ, σ < 64 → ∀ j, j < W → bt (hl' 17 j) σ = (opM 3 ew eW eb el (nI u) ex ey ez).toNatClampNeg.testBit j) → Φ hi hl') : wpG_join hi hl Φ := by
  have hv : vp_in (3 : Int32) 31 := vp31 3 (by decide)
  have e : swC (3 : Int32).toNatClampNeg = 8 := by decide
  unfold wpG_join wbG_join_0
  rw [h3, e]
  simp (decide := true) only [false_implies, true_implies, and_true, true_and, not_true, not_false_eq_true, hv]
  rw [h9]
  refine pG_constant hi hl _ W u (by omega) h6 (fun hl' h1 h2 => h hl' (fun c hc => h1 c (by omega)) (fun σ hσ j hj => ?_))
  simp (decide := true) only [opM, ↓reduceIte]
  rw [h2 j hj, nI_clamp (by omega), ← bt_u u (List.mem_range.mpr hu) j (List.mem_range.mpr (by omega))]
  cases bt (nI u).toInt64 j
  · rw [if_neg (by decide), bt_0]
  · rw [if_pos rfl, bt_m1 hσ]
