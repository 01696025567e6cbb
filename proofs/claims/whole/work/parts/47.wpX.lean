def wbT_byteOf_0 (v0 : Int32) (v1 : Int32) (hi : HI) (hl : HL) (Φ : Int32 → HI → HL → Prop) : Prop :=
  Φ (((v0.toUInt32 >>> (((8 : Int32) * v1).toUInt32 &&& Int32.toUInt32 31)).toInt32) &&& (255 : Int32)) hi hl
def wpT_byteOf (v0 : Int32) (v1 : Int32) (hi : HI) (hl : HL) (Φ : Int32 → HI → HL → Prop) : Prop :=
  wbT_byteOf_0 v0 v1 hi hl Φ
def wbT_append_63 : Nat → Int32 → Int32 → HI → HL → (Int32 → HI → HL → Prop) → Prop
  | 0, _, _, _, _, _ => False
  | n + 1, v1, v3, hi, hl, Φ =>
    (v3 < 0 →
      i01 (1 : Int32) ∧
      Φ (1 : Int32) hi hl) ∧
    (¬ (v3 < 0) →
      wpT_byteOf v1 v3 hi hl (fun r2 hi3 hl4 =>
        vp_in (hi 1 3) 40 ∧
        wbT_append_63 n v1 (v3 + Int32.ofInt (-1)) (u2 (u2 hi3 2 ((hi 1 3).toNatClampNeg) (vp_nar .char ((r2.toUInt32 % 65536).toInt32))) 1 3 (((u2 hi3 2 ((hi 1 3).toNatClampNeg) (vp_nar .char ((r2.toUInt32 % 65536).toInt32))) 1 3) + (1 : Int32))) hl4 Φ))
def wbT_append_25 : Nat → Int32 → Int32 → Int32 → HI → HL → (Int32 → HI → HL → Prop) → Prop
  | 0, _, _, _, _, _, _ => False
  | n + 1, v1, v2, v3, hi, hl, Φ =>
    (v2 ≤ v3 →
      (∃ fu, wbT_append_63 fu v1 (v2 - (1 : Int32)) hi hl Φ)) ∧
    (¬ (v2 ≤ v3) →
      wpT_byteOf v1 v3 hi hl (fun r1 hi2 hl3 =>
        (r1 < (32 : Int32) →
          i01 (0 : Int32) ∧
          Φ (0 : Int32) hi2 hl3) ∧
        (¬ (r1 < (32 : Int32)) →
          (r1 ≤ (126 : Int32) →
            wbT_append_25 n v1 v2 (v3 + Int32.ofInt (1)) hi2 hl3 Φ) ∧
          (¬ (r1 ≤ (126 : Int32)) →
            i01 (0 : Int32) ∧
            Φ (0 : Int32) hi2 hl3))))
def wbT_append_0 (v1 : Int32) (v2 : Int32) (hi : HI) (hl : HL) (Φ : Int32 → HI → HL → Prop) : Prop :=
  (v2 < (1 : Int32) →
    i01 (0 : Int32) ∧
    Φ (0 : Int32) hi hl) ∧
  (¬ (v2 < (1 : Int32)) →
    ((4 : Int32) < v2 →
      i01 (0 : Int32) ∧
      Φ (0 : Int32) hi hl) ∧
    (¬ ((4 : Int32) < v2) →
      (((hi 1 3) + v2) ≤ (40 : Int32) →
        (∃ fu, wbT_append_25 fu v1 v2 (0 : Int32) hi hl Φ)) ∧
      (¬ (((hi 1 3) + v2) ≤ (40 : Int32)) →
        i01 (0 : Int32) ∧
        Φ (0 : Int32) hi hl)))
def wpT_append (v1 : Int32) (v2 : Int32) (hi : HI) (hl : HL) (Φ : Int32 → HI → HL → Prop) : Prop :=
  wbT_append_0 v1 v2 hi hl Φ
def wbC_type_0 (v1 : Int32) (v2 : Int32) (hi : HI) (hl : HL) (Φ : Int32 → HI → HL → Prop) : Prop :=
  wpT_append v1 v2 hi hl (fun r1 hi2 hl3 =>
    i01 r1 ∧
    Φ r1 hi2 hl3)
def wpC_type (v1 : Int32) (v2 : Int32) (hi : HI) (hl : HL) (Φ : Int32 → HI → HL → Prop) : Prop :=
  wbC_type_0 v1 v2 hi hl Φ
def wbB_wireOf_0 (v2 : Int32) (v3 : Int32) (v4 : Int32) (hi : HI) (hl : HL) (Φ : Int64 → HI → HL → Prop) : Prop :=
  vp_in v2 3 ∧
  vp_in (hi 11 (v2.toNatClampNeg)) 20 ∧
  vp_in ((v3 * (4 : Int32)) + v4) 24 ∧
  vp_in v2 3 ∧
  ((hi 12 (v2.toNatClampNeg)) = 0 →
    Φ (hl (44 + ((hi 11 (v2.toNatClampNeg)).toNatClampNeg)) (((v3 * (4 : Int32)) + v4).toNatClampNeg)) hi hl) ∧
  (¬ ((hi 12 (v2.toNatClampNeg)) = 0) →
    Φ ((hl (44 + ((hi 11 (v2.toNatClampNeg)).toNatClampNeg)) (((v3 * (4 : Int32)) + v4).toNatClampNeg)) ^^^ (-1 : Int64)) hi hl)
def wpB_wireOf (v2 : Int32) (v3 : Int32) (v4 : Int32) (hi : HI) (hl : HL) (Φ : Int64 → HI → HL → Prop) : Prop :=
  wbB_wireOf_0 v2 v3 v4 hi hl Φ
def wbB_addBad_2 : Nat → Int32 → HI → HL → (HI → HL → Prop) → Prop
  | 0, _, _, _, _ => False
  | n + 1, v2, hi, hl, Φ =>
    ((4 : Int32) ≤ v2 →
      Φ hi hl) ∧
    (¬ ((4 : Int32) ≤ v2) →
      vp_in v2 4 ∧
      wpB_wireOf (0 : Int32) (0 : Int32) v2 hi hl (fun r2 hi3 hl4 =>
        vp_in v2 4 ∧
        wbB_addBad_2 n (v2 + Int32.ofInt (1)) hi3 (u2 hl4 8 (v2.toNatClampNeg) ((hl 8 (v2.toNatClampNeg)) ||| r2)) Φ))
def wbB_addBad_0 (hi : HI) (hl : HL) (Φ : HI → HL → Prop) : Prop :=
  (∃ fu, wbB_addBad_2 fu (0 : Int32) hi hl Φ)
def wpB_addBad (hi : HI) (hl : HL) (Φ : HI → HL → Prop) : Prop :=
  wbB_addBad_0 hi hl Φ
def wbB_addConstraint_2 : Nat → Int32 → HI → HL → (HI → HL → Prop) → Prop
  | 0, _, _, _, _ => False
  | n + 1, v2, hi, hl, Φ =>
    ((4 : Int32) ≤ v2 →
      Φ hi hl) ∧
    (¬ ((4 : Int32) ≤ v2) →
      vp_in v2 4 ∧
      wpB_wireOf (0 : Int32) (0 : Int32) v2 hi hl (fun r2 hi3 hl4 =>
        vp_in v2 4 ∧
        wbB_addConstraint_2 n (v2 + Int32.ofInt (1)) hi3 (u2 hl4 9 (v2.toNatClampNeg) ((hl 9 (v2.toNatClampNeg)) &&& r2)) Φ))
def wbB_addConstraint_0 (hi : HI) (hl : HL) (Φ : HI → HL → Prop) : Prop :=
  (∃ fu, wbB_addConstraint_2 fu (0 : Int32) hi hl Φ)
def wpB_addConstraint (hi : HI) (hl : HL) (Φ : HI → HL → Prop) : Prop :=
  wbB_addConstraint_0 hi hl Φ
def wbC_isArray_0 (v0 : Int32) (hi : HI) (hl : HL) (Φ : Int32 → HI → HL → Prop) : Prop :=
  (v0 ≤ (4 : Int32) →
    i01 (0 : Int32) ∧
    Φ (0 : Int32) hi hl) ∧
  (¬ (v0 ≤ (4 : Int32)) →
    i01 (1 : Int32) ∧
    Φ (1 : Int32) hi hl)
def wpC_isArray (v0 : Int32) (hi : HI) (hl : HL) (Φ : Int32 → HI → HL → Prop) : Prop :=
  wbC_isArray_0 v0 hi hl Φ
def wbC_bitsOf_0 (v0 : Int32) (hi : HI) (hl : HL) (Φ : Int32 → HI → HL → Prop) : Prop :=
  wpC_isArray v0 hi hl (fun r1 hi2 hl3 =>
    (r1 = 0 →
      Φ v0 hi2 hl3) ∧
    (¬ (r1 = 0) →
      Φ ((2 : Int32) * (v0 - (4 : Int32))) hi2 hl3))
def wpC_bitsOf (v0 : Int32) (hi : HI) (hl : HL) (Φ : Int32 → HI → HL → Prop) : Prop :=
  wbC_bitsOf_0 v0 hi hl Φ
def wbC_has_0 (v0 : Int64) (v2 : Int32) (hi : HI) (hl : HL) (Φ : Int32 → HI → HL → Prop) : Prop :=
  ((lg_cmp (((v0.toUInt64 >>> (v2.toInt64.toUInt64 &&& Int64.toUInt64 63)).toInt64) &&& (1 : Int64)) (0 : Int64)) = 0 →
    i01 (0 : Int32) ∧
    Φ (0 : Int32) hi hl) ∧
  (¬ ((lg_cmp (((v0.toUInt64 >>> (v2.toInt64.toUInt64 &&& Int64.toUInt64 63)).toInt64) &&& (1 : Int64)) (0 : Int64)) = 0) →
    i01 (1 : Int32) ∧
    Φ (1 : Int32) hi hl)
def wpC_has (v0 : Int64) (v2 : Int32) (hi : HI) (hl : HL) (Φ : Int32 → HI → HL → Prop) : Prop :=
  wbC_has_0 v0 v2 hi hl Φ
def wbB_addInput_74 (k26 : (Nat → Int32 → HI → HL → Prop)) (k39 : (Nat → Int32 → Int32 → HI → HL → Prop)) (v1 : Nat) (v2 : Int32) (v3 : Int32) (q0 : Nat) (q1 : Int32) (q2 : Int64) (hi : HI) (hl : HL) (Φ : HI → HL → Prop) : Prop :=
  vp_in q1 24 ∧
  k39 v1 v2 (v3 + Int32.ofInt (1)) hi (u2 hl (44 + q0) (q1.toNatClampNeg) q2)
def wbB_addInput_39 (k26 : (Nat → Int32 → HI → HL → Prop)) : Nat → Nat → Int32 → Int32 → HI → HL → (HI → HL → Prop) → Prop
  | 0, _, _, _, _, _, _ => False
  | n + 1, v1, v2, v3, hi, hl, Φ =>
    ((4 : Int32) ≤ v3 →
      k26 v1 (v2 + Int32.ofInt (1)) hi hl) ∧
    (¬ ((4 : Int32) ≤ v3) →
      wpC_has v3.toInt64 ((hi (24 + v1) 4) + v2) hi hl (fun r1 hi2 hl3 =>
        (r1 = 0 →
          wbB_addInput_74 k26 (fun v1 v2 v3 hi hl => wbB_addInput_39 k26 n v1 v2 v3 hi hl Φ) v1 v2 v3 v1 ((v2 * (4 : Int32)) + v3) (0 : Int64) hi2 hl3 Φ) ∧
        (¬ (r1 = 0) →
          wbB_addInput_74 k26 (fun v1 v2 v3 hi hl => wbB_addInput_39 k26 n v1 v2 v3 hi hl Φ) v1 v2 v3 v1 ((v2 * (4 : Int32)) + v3) (-1 : Int64) hi2 hl3 Φ)))
def wbB_addInput_26 : Nat → Nat → Int32 → HI → HL → (HI → HL → Prop) → Prop
  | 0, _, _, _, _, _ => False
  | n + 1, v1, v2, hi, hl, Φ =>
    wpC_bitsOf (hi (24 + v1) 2) hi hl (fun r1 hi2 hl3 =>
      (r1 ≤ v2 →
        Φ hi2 hl3) ∧
      (¬ (r1 ≤ v2) →
        (∃ fu, wbB_addInput_39 (fun v1 v2 hi hl => wbB_addInput_26 n v1 v2 hi hl Φ) fu v1 v2 (0 : Int32) hi2 hl3 Φ)))
def wbB_addInput_0 (v1 : Nat) (hi : HI) (hl : HL) (Φ : HI → HL → Prop) : Prop :=
  wpC_bitsOf ((u2 hi (24 + v1) 4 (hi 5 3)) (24 + v1) 2) (u2 hi (24 + v1) 4 (hi 5 3)) hl (fun r1 hi2 hl3 =>
    (∃ fu, wbB_addInput_26 fu v1 (0 : Int32) (u2 hi2 5 3 (((u2 hi (24 + v1) 4 (hi 5 3)) 5 3) + r1)) hl3 Φ))
def wpB_addInput (v1 : Nat) (hi : HI) (hl : HL) (Φ : HI → HL → Prop) : Prop :=
  wbB_addInput_0 v1 hi hl Φ
def wbB_addState_39 (k26 : (Nat → Int32 → HI → HL → Prop)) : Nat → Nat → Int32 → Int32 → HI → HL → (HI → HL → Prop) → Prop
  | 0, _, _, _, _, _, _ => False
  | n + 1, v1, v2, v3, hi, hl, Φ =>
    ((4 : Int32) ≤ v3 →
      k26 v1 (v2 + Int32.ofInt (1)) hi hl) ∧
    (¬ ((4 : Int32) ≤ v3) →
      vp_in ((hi (24 + v1) 4) + v2) 6 ∧
      vp_in ((v2 * (4 : Int32)) + v3) 24 ∧
      vp_in ((hi (24 + v1) 4) + v2) 6 ∧
      vp_in ((((hi (24 + v1) 4) + v2) * (4 : Int32)) + v3) 24 ∧
      wbB_addState_39 k26 n v1 v2 (v3 + Int32.ofInt (1)) hi (u2 (u2 hl (44 + v1) (((v2 * (4 : Int32)) + v3).toNatClampNeg) (lanesC (((hi (24 + v1) 4) + v2).toNatClampNeg))) 7 (((((hi (24 + v1) 4) + v2) * (4 : Int32)) + v3).toNatClampNeg) (lanesC (((hi (24 + v1) 4) + v2).toNatClampNeg))) Φ)
def wbB_addState_26 : Nat → Nat → Int32 → HI → HL → (HI → HL → Prop) → Prop
  | 0, _, _, _, _, _ => False
  | n + 1, v1, v2, hi, hl, Φ =>
    wpC_bitsOf (hi (24 + v1) 2) hi hl (fun r1 hi2 hl3 =>
      (r1 ≤ v2 →
        Φ hi2 hl3) ∧
      (¬ (r1 ≤ v2) →
        (∃ fu, wbB_addState_39 (fun v1 v2 hi hl => wbB_addState_26 n v1 v2 hi hl Φ) fu v1 v2 (0 : Int32) hi2 hl3 Φ)))
def wbB_addState_0 (v1 : Nat) (hi : HI) (hl : HL) (Φ : HI → HL → Prop) : Prop :=
  wpC_bitsOf ((u2 hi (24 + v1) 4 (hi 5 4)) (24 + v1) 2) (u2 hi (24 + v1) 4 (hi 5 4)) hl (fun r1 hi2 hl3 =>
    (∃ fu, wbB_addState_26 fu v1 (0 : Int32) (u2 hi2 5 4 (((u2 hi (24 + v1) 4 (hi 5 4)) 5 4) + r1)) hl3 Φ))
def wpB_addState (v1 : Nat) (hi : HI) (hl : HL) (Φ : HI → HL → Prop) : Prop :=
  wbB_addState_0 v1 hi hl Φ
def wbB_allFixed_2 : Nat → Int32 → HI → HL → (Int32 → HI → HL → Prop) → Prop
  | 0, _, _, _, _ => False
  | n + 1, v2, hi, hl, Φ =>
    ((hi 10 7) ≤ v2 →
      i01 (1 : Int32) ∧
      Φ (1 : Int32) hi hl) ∧
    (¬ ((hi 10 7) ≤ v2) →
      vp_in v2 3 ∧
      vp_in (hi 11 (v2.toNatClampNeg)) 20 ∧
      ((hi (24 + ((hi 11 (v2.toNatClampNeg)).toNatClampNeg)) 3) = 0 →
        i01 (0 : Int32) ∧
        Φ (0 : Int32) hi hl) ∧
      (¬ ((hi (24 + ((hi 11 (v2.toNatClampNeg)).toNatClampNeg)) 3) = 0) →
        wbB_allFixed_2 n (v2 + Int32.ofInt (1)) hi hl Φ))
def wbB_allFixed_0 (hi : HI) (hl : HL) (Φ : Int32 → HI → HL → Prop) : Prop :=
  (∃ fu, wbB_allFixed_2 fu (0 : Int32) hi hl Φ)
def wpB_allFixed (hi : HI) (hl : HL) (Φ : Int32 → HI → HL → Prop) : Prop :=
  wbB_allFixed_0 hi hl Φ
def wbB_setInit_38 (k4 : (Int32 → Int32 → HI → HL → Prop)) (v3 : Int32) (q0 : Int32) (q1 : Int32) (hi : HI) (hl : HL) (Φ : HI → HL → Prop) : Prop :=
  k4 (q0 ||| q1) (v3 + Int32.ofInt (1)) hi hl
def wbB_setInit_4 : Nat → Int32 → Int32 → HI → HL → (HI → HL → Prop) → Prop
  | 0, _, _, _, _, _ => False
  | n + 1, v2, v3, hi, hl, Φ =>
    wpC_bitsOf (hi 10 4) hi hl (fun r1 hi2 hl3 =>
      (r1 ≤ v3 →
        vp_in (0 : Int32) 3 ∧
        vp_in (hi2 11 ((0 : Int32).toNatClampNeg)) 20 ∧
        Φ (u2 hi2 (24 + ((hi2 11 ((0 : Int32).toNatClampNeg)).toNatClampNeg)) 5 v2) hl3) ∧
      (¬ (r1 ≤ v3) →
        wpB_wireOf (1 : Int32) v3 (0 : Int32) hi2 hl3 (fun r6 hi7 hl8 =>
          wpC_has r6 (0 : Int32) hi7 hl8 (fun r9 hi10 hl11 =>
            (r9 = 0 →
              wbB_setInit_38 (fun v2 v3 hi hl => wbB_setInit_4 n v2 v3 hi hl Φ) v3 v2 (0 : Int32) hi10 hl11 Φ) ∧
            (¬ (r9 = 0) →
              wbB_setInit_38 (fun v2 v3 hi hl => wbB_setInit_4 n v2 v3 hi hl Φ) v3 v2 ((1 : Int32) <<< (v3 &&& 31)) hi10 hl11 Φ)))))
def wbB_setInit_0 (hi : HI) (hl : HL) (Φ : HI → HL → Prop) : Prop :=
  (∃ fu, wbB_setInit_4 fu (0 : Int32) (0 : Int32) hi hl Φ)
def wpB_setInit (hi : HI) (hl : HL) (Φ : HI → HL → Prop) : Prop :=
  wbB_setInit_0 hi hl Φ
def wbB_setNext_33 (k19 : (Nat → Int32 → HI → HL → Prop)) : Nat → Nat → Int32 → Int32 → HI → HL → (HI → HL → Prop) → Prop
  | 0, _, _, _, _, _, _ => False
  | n + 1, v2, v3, v4, hi, hl, Φ =>
    ((4 : Int32) ≤ v4 →
      k19 v2 (v3 + Int32.ofInt (1)) hi hl) ∧
    (¬ ((4 : Int32) ≤ v4) →
      wpB_wireOf (1 : Int32) v3 v4 hi hl (fun r1 hi2 hl3 =>
        vp_in ((((hi (24 + v2) 4) + v3) * (4 : Int32)) + v4) 24 ∧
        wbB_setNext_33 k19 n v2 v3 (v4 + Int32.ofInt (1)) hi2 (u2 hl3 7 (((((hi (24 + v2) 4) + v3) * (4 : Int32)) + v4).toNatClampNeg) r1) Φ))
def wbB_setNext_19 : Nat → Nat → Int32 → HI → HL → (HI → HL → Prop) → Prop
  | 0, _, _, _, _, _ => False
  | n + 1, v2, v3, hi, hl, Φ =>
    wpC_bitsOf (hi 10 4) hi hl (fun r1 hi2 hl3 =>
      (r1 ≤ v3 →
        Φ hi2 hl3) ∧
      (¬ (r1 ≤ v3) →
        (∃ fu, wbB_setNext_33 (fun v2 v3 hi hl => wbB_setNext_19 n v2 v3 hi hl Φ) fu v2 v3 (0 : Int32) hi2 hl3 Φ)))
def wbB_setNext_0 (hi : HI) (hl : HL) (Φ : HI → HL → Prop) : Prop :=
  vp_in (0 : Int32) 3 ∧
  vp_in (hi 11 ((0 : Int32).toNatClampNeg)) 20 ∧
  i01 (1 : Int32) ∧
  (∃ fu, wbB_setNext_19 fu ((hi 11 ((0 : Int32).toNatClampNeg)).toNatClampNeg) (0 : Int32) (u2 hi (24 + ((hi 11 ((0 : Int32).toNatClampNeg)).toNatClampNeg)) 6 (1 : Int32)) hl Φ)
def wpB_setNext (hi : HI) (hl : HL) (Φ : HI → HL → Prop) : Prop :=
  wbB_setNext_0 hi hl Φ
def wbG_clear_2 : Nat → Nat → Int32 → HI → HL → (HI → HL → Prop) → Prop
  | 0, _, _, _, _, _ => False
  | n + 1, v0, v1, hi, hl, Φ =>
    ((6 : Int32) ≤ v1 →
      Φ hi hl) ∧
    (¬ ((6 : Int32) ≤ v1) →
      vp_in v1 6 ∧
      wbG_clear_2 n v0 (v1 + Int32.ofInt (1)) hi (u2 hl (14 + v0) (v1.toNatClampNeg) (0 : Int64)) Φ)
def wbG_clear_0 (v0 : Nat) (hi : HI) (hl : HL) (Φ : HI → HL → Prop) : Prop :=
  (∃ fu, wbG_clear_2 fu v0 (0 : Int32) hi hl Φ)
def wpG_clear (v0 : Nat) (hi : HI) (hl : HL) (Φ : HI → HL → Prop) : Prop :=
  wbG_clear_0 v0 hi hl Φ
def wbG_choose_0 (v0 : Int64) (v2 : Int64) (v4 : Int64) (hi : HI) (hl : HL) (Φ : Int64 → HI → HL → Prop) : Prop :=
  Φ ((v0 &&& v2) ||| ((v0 ^^^ (-1 : Int64)) &&& v4)) hi hl
def wpG_choose (v0 : Int64) (v2 : Int64) (v4 : Int64) (hi : HI) (hl : HL) (Φ : Int64 → HI → HL → Prop) : Prop :=
  wbG_choose_0 v0 v2 v4 hi hl Φ
def wbG_arrange_250 (k9 : (Int32 → Int32 → Int32 → HI → HL → Prop)) (v1 : Int32) (v2 : Int32) (v3 : Int32) (hi : HI) (hl : HL) (Φ : HI → HL → Prop) : Prop :=
  k9 v1 v2 (v3 + Int32.ofInt (1)) hi hl
def wbG_arrange_93 (k9 : (Int32 → Int32 → Int32 → HI → HL → Prop)) (v1 : Int32) (v2 : Int32) (v3 : Int32) (q0 : Nat) (q1 : Int32) (q2 : Int64) (hi : HI) (hl : HL) (Φ : HI → HL → Prop) : Prop :=
  vp_in q1 6 ∧
  wbG_arrange_250 k9 v1 v2 v3 hi (u2 hl (14 + q0) (q1.toNatClampNeg) q2) Φ
def wbG_arrange_138 (k9 : (Int32 → Int32 → Int32 → HI → HL → Prop)) (v1 : Int32) (v2 : Int32) (v3 : Int32) (q0 : Nat) (q1 : Int32) (q2 : Int64) (hi : HI) (hl : HL) (Φ : HI → HL → Prop) : Prop :=
  vp_in q1 6 ∧
  wbG_arrange_250 k9 v1 v2 v3 hi (u2 hl (14 + q0) (q1.toNatClampNeg) q2) Φ
def wbG_arrange_118 (k9 : (Int32 → Int32 → Int32 → HI → HL → Prop)) (v1 : Int32) (v2 : Int32) (v3 : Int32) (q0 : Nat) (q1 : Int32) (hi : HI) (hl : HL) (Φ : HI → HL → Prop) : Prop :=
  vp_in v3 6 ∧
  wbG_arrange_138 k9 v1 v2 v3 q0 q1 (hl 14 (v3.toNatClampNeg)) hi hl Φ
def wbG_arrange_234 (k9 : (Int32 → Int32 → Int32 → HI → HL → Prop)) (v1 : Int32) (v2 : Int32) (v3 : Int32) (q0 : Nat) (q1 : Int32) (q2 : Int64) (hi : HI) (hl : HL) (Φ : HI → HL → Prop) : Prop :=
  vp_in q1 6 ∧
  wbG_arrange_250 k9 v1 v2 v3 hi (u2 hl (14 + q0) (q1.toNatClampNeg) q2) Φ
def wbG_arrange_9 : Nat → Int32 → Int32 → Int32 → HI → HL → (HI → HL → Prop) → Prop
  | 0, _, _, _, _, _, _ => False
  | n + 1, v1, v2, v3, hi, hl, Φ =>
    ((hi 13 6) ≤ v3 →
      Φ hi hl) ∧
    (¬ ((hi 13 6) ≤ v3) →
      vp_in v1 31 ∧
      vp_in v1 31 ∧
      ((swC (v1.toNatClampNeg)) = 19 →
        ((hi 13 8) ≤ v3 →
          vp_in (v3 - (hi 13 8)) 6 ∧
          wbG_arrange_93 (fun v1 v2 v3 hi hl => wbG_arrange_9 n v1 v2 v3 hi hl Φ) v1 v2 v3 3 v3 (hl 14 ((v3 - (hi 13 8)).toNatClampNeg)) hi hl Φ) ∧
        (¬ ((hi 13 8) ≤ v3) →
          vp_in v3 6 ∧
          wbG_arrange_93 (fun v1 v2 v3 hi hl => wbG_arrange_9 n v1 v2 v3 hi hl Φ) v1 v2 v3 3 v3 (hl 15 (v3.toNatClampNeg)) hi hl Φ)) ∧
      ((swC (v1.toNatClampNeg)) = 20 →
        vp_in v3 6 ∧
        vp_in v3 6 ∧
        wbG_arrange_250 (fun v1 v2 v3 hi hl => wbG_arrange_9 n v1 v2 v3 hi hl Φ) v1 v2 v3 hi (u2 hl 17 (v3.toNatClampNeg) (hl 14 (v3.toNatClampNeg))) Φ) ∧
      ((swC (v1.toNatClampNeg)) = 21 →
        (v3 < (hi 13 7) →
          wbG_arrange_118 (fun v1 v2 v3 hi hl => wbG_arrange_9 n v1 v2 v3 hi hl Φ) v1 v2 v3 3 v3 hi hl Φ) ∧
        (¬ (v3 < (hi 13 7)) →
          ((1 : Int32) ≤ (hi 13 7) →
            vp_in ((hi 13 7) - (1 : Int32)) 6 ∧
            wbG_arrange_138 (fun v1 v2 v3 hi hl => wbG_arrange_9 n v1 v2 v3 hi hl Φ) v1 v2 v3 3 v3 (hl 14 (((hi 13 7) - (1 : Int32)).toNatClampNeg)) hi hl Φ) ∧
          (¬ ((1 : Int32) ≤ (hi 13 7)) →
            wbG_arrange_118 (fun v1 v2 v3 hi hl => wbG_arrange_9 n v1 v2 v3 hi hl Φ) v1 v2 v3 3 v3 hi hl Φ))) ∧
      ((swC (v1.toNatClampNeg)) = 22 →
        vp_in (0 : Int32) 6 ∧
        vp_in ((hi 13 6) + v3) 6 ∧
        vp_in v3 6 ∧
        wpG_choose (hl 15 ((0 : Int32).toNatClampNeg)) (hl 14 (((hi 13 6) + v3).toNatClampNeg)) (hl 14 (v3.toNatClampNeg)) hi hl (fun r11 hi12 hl13 =>
          vp_in v3 6 ∧
          wbG_arrange_250 (fun v1 v2 v3 hi hl => wbG_arrange_9 n v1 v2 v3 hi hl Φ) v1 v2 v3 hi12 (u2 hl13 17 (v3.toNatClampNeg) r11) Φ)) ∧
      ((swC (v1.toNatClampNeg)) = 23 →
        (v2 ≤ v3 →
          vp_in (0 : Int32) 6 ∧
          vp_in (v3 - v2) 6 ∧
          vp_in v3 6 ∧
          wpG_choose (hl 15 ((0 : Int32).toNatClampNeg)) (hl 16 ((v3 - v2).toNatClampNeg)) (hl 14 (v3.toNatClampNeg)) hi hl (fun r18 hi19 hl20 =>
            wbG_arrange_234 (fun v1 v2 v3 hi hl => wbG_arrange_9 n v1 v2 v3 hi hl Φ) v1 v2 v3 3 v3 r18 hi19 hl20 Φ)) ∧
        (¬ (v2 ≤ v3) →
          vp_in (0 : Int32) 6 ∧
          vp_in v3 6 ∧
          vp_in v3 6 ∧
          wpG_choose (hl 15 ((0 : Int32).toNatClampNeg)) (hl 14 (v3.toNatClampNeg)) (hl 16 (v3.toNatClampNeg)) hi hl (fun r24 hi25 hl26 =>
            wbG_arrange_234 (fun v1 v2 v3 hi hl => wbG_arrange_9 n v1 v2 v3 hi hl Φ) v1 v2 v3 3 v3 r24 hi25 hl26 Φ))) ∧
      (¬ (swC (v1.toNatClampNeg)) = 19 → ¬ (swC (v1.toNatClampNeg)) = 20 → ¬ (swC (v1.toNatClampNeg)) = 21 → ¬ (swC (v1.toNatClampNeg)) = 22 → ¬ (swC (v1.toNatClampNeg)) = 23 → 
        vp_in v3 6 ∧
        vp_in v3 6 ∧
        wbG_arrange_250 (fun v1 v2 v3 hi hl => wbG_arrange_9 n v1 v2 v3 hi hl Φ) v1 v2 v3 hi (u2 hl 17 (v3.toNatClampNeg) (hl 14 (v3.toNatClampNeg))) Φ))
def wbG_arrange_0 (v1 : Int32) (hi : HI) (hl : HL) (Φ : HI → HL → Prop) : Prop :=
  ¬ (2 : Int32) = 0 ∧
  (∃ fu, wbG_arrange_9 fu v1 ((hi 13 6) / (2 : Int32)) (0 : Int32) hi hl Φ)
def wpG_arrange (v1 : Int32) (hi : HI) (hl : HL) (Φ : HI → HL → Prop) : Prop :=
  wbG_arrange_0 v1 hi hl Φ
def wbG_below_4 : Nat → Int64 → Int32 → HI → HL → (Int64 → HI → HL → Prop) → Prop
  | 0, _, _, _, _, _ => False
  | n + 1, v1, v3, hi, hl, Φ =>
    ((hi 13 7) ≤ v3 →
      Φ v1 hi hl) ∧
    (¬ ((hi 13 7) ≤ v3) →
      vp_in v3 6 ∧
      vp_in v3 6 ∧
      vp_in v3 6 ∧
      wpG_choose ((hl 14 (v3.toNatClampNeg)) ^^^ (hl 15 (v3.toNatClampNeg))) (hl 15 (v3.toNatClampNeg)) v1 hi hl (fun r4 hi5 hl6 =>
        wbG_below_4 n r4 (v3 + Int32.ofInt (1)) hi5 hl6 Φ))
def wbG_below_0 (hi : HI) (hl : HL) (Φ : Int64 → HI → HL → Prop) : Prop :=
  (∃ fu, wbG_below_4 fu (0 : Int64) (0 : Int32) hi hl Φ)
def wpG_below (hi : HI) (hl : HL) (Φ : Int64 → HI → HL → Prop) : Prop :=
  wbG_below_0 hi hl Φ
def wbG_equal_6 : Nat → Int64 → Int32 → HI → HL → (Int64 → HI → HL → Prop) → Prop
  | 0, _, _, _, _, _ => False
  | n + 1, v1, v3, hi, hl, Φ =>
    ((hi 13 7) ≤ v3 →
      Φ v1 hi hl) ∧
    (¬ ((hi 13 7) ≤ v3) →
      vp_in v3 6 ∧
      vp_in v3 6 ∧
      wbG_equal_6 n (v1 &&& (((hl 14 (v3.toNatClampNeg)) ^^^ (hl 15 (v3.toNatClampNeg))) ^^^ (-1 : Int64))) (v3 + Int32.ofInt (1)) hi hl Φ)
def wbG_equal_0 (hi : HI) (hl : HL) (Φ : Int64 → HI → HL → Prop) : Prop :=
  (∃ fu, wbG_equal_6 fu (-1 : Int64) (0 : Int32) hi hl Φ)
def wpG_equal (hi : HI) (hl : HL) (Φ : Int64 → HI → HL → Prop) : Prop :=
  wbG_equal_0 hi hl Φ
def wbG_swapHighest_0 (hi : HI) (hl : HL) (Φ : HI → HL → Prop) : Prop :=
  ((hi 13 7) ≤ 0 →
    Φ hi hl) ∧
  (¬ ((hi 13 7) ≤ 0) →
    vp_in ((hi 13 7) - (1 : Int32)) 6 ∧
    vp_in ((hi 13 7) - (1 : Int32)) 6 ∧
    vp_in ((hi 13 7) - (1 : Int32)) 6 ∧
    vp_in ((hi 13 7) - (1 : Int32)) 6 ∧
    Φ hi (u2 (u2 hl 14 (((hi 13 7) - (1 : Int32)).toNatClampNeg) (hl 15 (((hi 13 7) - (1 : Int32)).toNatClampNeg))) 15 (((hi 13 7) - (1 : Int32)).toNatClampNeg) (hl 14 (((hi 13 7) - (1 : Int32)).toNatClampNeg))))
def wpG_swapHighest (hi : HI) (hl : HL) (Φ : HI → HL → Prop) : Prop :=
  wbG_swapHighest_0 hi hl Φ
def wbG_compare_0 (v1 : Int32) (hi : HI) (hl : HL) (Φ : Int64 → HI → HL → Prop) : Prop :=
  vp_in v1 31 ∧
  vp_in v1 31 ∧
  ((swC (v1.toNatClampNeg)) = 15 →
    wpG_equal hi hl (fun r3 hi4 hl5 =>
      Φ (r3 ^^^ (-1 : Int64)) hi4 hl5)) ∧
  ((swC (v1.toNatClampNeg)) = 16 →
    wpG_equal hi hl (fun r6 hi7 hl8 =>
      Φ r6 hi7 hl8)) ∧
  ((swC (v1.toNatClampNeg)) = 17 →
    wpG_below hi hl (fun r9 hi10 hl11 =>
      Φ r9 hi10 hl11)) ∧
  ((swC (v1.toNatClampNeg)) = 18 →
    wpG_swapHighest hi hl (fun hi13 hl14 =>
      wpG_below hi13 hl14 (fun r15 hi16 hl17 =>
        Φ r15 hi16 hl17))) ∧
  (¬ (swC (v1.toNatClampNeg)) = 15 → ¬ (swC (v1.toNatClampNeg)) = 16 → ¬ (swC (v1.toNatClampNeg)) = 17 → ¬ (swC (v1.toNatClampNeg)) = 18 → 
    wpG_below hi hl (fun r18 hi19 hl20 =>
      Φ r18 hi19 hl20))
def wpG_compare (v1 : Int32) (hi : HI) (hl : HL) (Φ : Int64 → HI → HL → Prop) : Prop :=
  wbG_compare_0 v1 hi hl Φ
def wbG_constant_31 (k2 : (Int32 → Int32 → HI → HL → Prop)) (v1 : Int32) (v2 : Int32) (q0 : Nat) (q1 : Int32) (q2 : Int64) (hi : HI) (hl : HL) (Φ : HI → HL → Prop) : Prop :=
  vp_in q1 6 ∧
  k2 v1 (v2 + Int32.ofInt (1)) hi (u2 hl (14 + q0) (q1.toNatClampNeg) q2)
def wbG_constant_2 : Nat → Int32 → Int32 → HI → HL → (HI → HL → Prop) → Prop
  | 0, _, _, _, _, _ => False
  | n + 1, v1, v2, hi, hl, Φ =>
    ((hi 13 6) ≤ v2 →
      Φ hi hl) ∧
    (¬ ((hi 13 6) ≤ v2) →
      wpC_has v1.toInt64 v2 hi hl (fun r1 hi2 hl3 =>
        (r1 = 0 →
          wbG_constant_31 (fun v1 v2 hi hl => wbG_constant_2 n v1 v2 hi hl Φ) v1 v2 3 v2 (0 : Int64) hi2 hl3 Φ) ∧
        (¬ (r1 = 0) →
          wbG_constant_31 (fun v1 v2 hi hl => wbG_constant_2 n v1 v2 hi hl Φ) v1 v2 3 v2 (-1 : Int64) hi2 hl3 Φ)))
def wbG_constant_0 (v1 : Int32) (hi : HI) (hl : HL) (Φ : HI → HL → Prop) : Prop :=
  (∃ fu, wbG_constant_2 fu v1 (0 : Int32) hi hl Φ)
def wpG_constant (v1 : Int32) (hi : HI) (hl : HL) (Φ : HI → HL → Prop) : Prop :=
  wbG_constant_0 v1 hi hl Φ
def wbG_cut_2 : Nat → Int32 → Int32 → HI → HL → (HI → HL → Prop) → Prop
  | 0, _, _, _, _, _ => False
  | n + 1, v1, v2, hi, hl, Φ =>
    ((hi 13 6) ≤ v2 →
      Φ hi hl) ∧
    (¬ ((hi 13 6) ≤ v2) →
      ((hi 13 7) ≤ (v1 + v2) →
        Φ hi hl) ∧
      (¬ ((hi 13 7) ≤ (v1 + v2)) →
        vp_in (v1 + v2) 6 ∧
        vp_in v2 6 ∧
        wbG_cut_2 n v1 (v2 + Int32.ofInt (1)) hi (u2 hl 17 (v2.toNatClampNeg) (hl 14 ((v1 + v2).toNatClampNeg))) Φ))
def wbG_cut_0 (v1 : Int32) (hi : HI) (hl : HL) (Φ : HI → HL → Prop) : Prop :=
  (∃ fu, wbG_cut_2 fu v1 (0 : Int32) hi hl Φ)
def wpG_cut (v1 : Int32) (hi : HI) (hl : HL) (Φ : HI → HL → Prop) : Prop :=
  wbG_cut_0 v1 hi hl Φ
def wbG_joinBit_0 (v1 : Int32) (v2 : Int32) (hi : HI) (hl : HL) (Φ : Int64 → HI → HL → Prop) : Prop :=
  vp_in v1 31 ∧
  vp_in v1 31 ∧
  ((swC (v1.toNatClampNeg)) = 10 →
    vp_in v2 6 ∧
    Φ ((hl 14 (v2.toNatClampNeg)) ^^^ (-1 : Int64)) hi hl) ∧
  ((swC (v1.toNatClampNeg)) = 11 →
    vp_in v2 6 ∧
    vp_in v2 6 ∧
    Φ ((hl 14 (v2.toNatClampNeg)) &&& (hl 15 (v2.toNatClampNeg))) hi hl) ∧
  ((swC (v1.toNatClampNeg)) = 12 →
    vp_in v2 6 ∧
    vp_in v2 6 ∧
    Φ ((hl 14 (v2.toNatClampNeg)) ||| (hl 15 (v2.toNatClampNeg))) hi hl) ∧
  ((swC (v1.toNatClampNeg)) = 13 →
    vp_in v2 6 ∧
    vp_in v2 6 ∧
    Φ ((hl 14 (v2.toNatClampNeg)) ^^^ (hl 15 (v2.toNatClampNeg))) hi hl) ∧
  (¬ (swC (v1.toNatClampNeg)) = 10 → ¬ (swC (v1.toNatClampNeg)) = 11 → ¬ (swC (v1.toNatClampNeg)) = 12 → ¬ (swC (v1.toNatClampNeg)) = 13 → 
    vp_in (0 : Int32) 6 ∧
    vp_in v2 6 ∧
    vp_in v2 6 ∧
    wpG_choose (hl 14 ((0 : Int32).toNatClampNeg)) (hl 15 (v2.toNatClampNeg)) (hl 16 (v2.toNatClampNeg)) hi hl (fun r13 hi14 hl15 =>
      Φ r13 hi14 hl15))
def wpG_joinBit (v1 : Int32) (v2 : Int32) (hi : HI) (hl : HL) (Φ : Int64 → HI → HL → Prop) : Prop :=
  wbG_joinBit_0 v1 v2 hi hl Φ
def wbG_joinByBits_2 : Nat → Int32 → Int32 → HI → HL → (HI → HL → Prop) → Prop
  | 0, _, _, _, _, _ => False
  | n + 1, v1, v2, hi, hl, Φ =>
    ((hi 13 6) ≤ v2 →
      Φ hi hl) ∧
    (¬ ((hi 13 6) ≤ v2) →
      vp_in v1 31 ∧
      wpG_joinBit v1 v2 hi hl (fun r2 hi3 hl4 =>
        vp_in v2 6 ∧
        wbG_joinByBits_2 n v1 (v2 + Int32.ofInt (1)) hi3 (u2 hl4 17 (v2.toNatClampNeg) r2) Φ))
def wbG_joinByBits_0 (v1 : Int32) (hi : HI) (hl : HL) (Φ : HI → HL → Prop) : Prop :=
  (∃ fu, wbG_joinByBits_2 fu v1 (0 : Int32) hi hl Φ)
def wpG_joinByBits (v1 : Int32) (hi : HI) (hl : HL) (Φ : HI → HL → Prop) : Prop :=
  wbG_joinByBits_0 v1 hi hl Φ
def wbG_carryOf_0 (v0 : Int64) (v2 : Int64) (v4 : Int64) (hi : HI) (hl : HL) (Φ : Int64 → HI → HL → Prop) : Prop :=
  Φ ((v0 &&& v2) ||| (v4 &&& (v0 ^^^ v2))) hi hl
def wpG_carryOf (v0 : Int64) (v2 : Int64) (v4 : Int64) (hi : HI) (hl : HL) (Φ : Int64 → HI → HL → Prop) : Prop :=
  wbG_carryOf_0 v0 v2 v4 hi hl Φ
def wbG_addUp_6 : Nat → Nat → Nat → Int64 → Int64 → Int32 → HI → HL → (HI → HL → Prop) → Prop
  | 0, _, _, _, _, _, _, _, _ => False
  | n + 1, v1, v2, v3, v5, v7, hi, hl, Φ =>
    ((hi 13 6) ≤ v7 →
      Φ hi hl) ∧
    (¬ ((hi 13 6) ≤ v7) →
      vp_in v7 6 ∧
      vp_in v7 6 ∧
      vp_in v7 6 ∧
      vp_in v7 6 ∧
      wpG_carryOf ((u2 hl 17 (v7.toNatClampNeg) (((hl (14 + v1) (v7.toNatClampNeg)) ^^^ ((hl (14 + v2) (v7.toNatClampNeg)) ^^^ v3)) ^^^ v5)) (14 + v1) (v7.toNatClampNeg)) ((hl (14 + v2) (v7.toNatClampNeg)) ^^^ v3) v5 hi (u2 hl 17 (v7.toNatClampNeg) (((hl (14 + v1) (v7.toNatClampNeg)) ^^^ ((hl (14 + v2) (v7.toNatClampNeg)) ^^^ v3)) ^^^ v5)) (fun r5 hi6 hl7 =>
        wbG_addUp_6 n v1 v2 v3 r5 (v7 + Int32.ofInt (1)) hi6 hl7 Φ))
def wbG_addUp_0 (v1 : Nat) (v2 : Nat) (v3 : Int64) (hi : HI) (hl : HL) (Φ : HI → HL → Prop) : Prop :=
  (∃ fu, wbG_addUp_6 fu v1 v2 v3 v3 (0 : Int32) hi hl Φ)
def wpG_addUp (v1 : Nat) (v2 : Nat) (v3 : Int64) (hi : HI) (hl : HL) (Φ : HI → HL → Prop) : Prop :=
  wbG_addUp_0 v1 v2 v3 hi hl Φ
def wbG_takeAway_64 : Nat → Int64 → Int32 → HI → HL → (Int64 → HI → HL → Prop) → Prop
  | 0, _, _, _, _, _ => False
  | n + 1, v1, v3, hi, hl, Φ =>
    ((hi 13 6) ≤ v3 →
      Φ (v1 ^^^ (-1 : Int64)) hi hl) ∧
    (¬ ((hi 13 6) ≤ v3) →
      vp_in v3 6 ∧
      vp_in v3 6 ∧
      vp_in v3 6 ∧
      wbG_takeAway_64 n v1 (v3 + Int32.ofInt (1)) hi (u2 hl 18 (v3.toNatClampNeg) ((v1 &&& (hl 18 (v3.toNatClampNeg))) ||| ((v1 ^^^ (-1 : Int64)) &&& (hl 19 (v3.toNatClampNeg))))) Φ)
def wbG_takeAway_4 : Nat → Int64 → Int32 → HI → HL → (Int64 → HI → HL → Prop) → Prop
  | 0, _, _, _, _, _ => False
  | n + 1, v1, v3, hi, hl, Φ =>
    ((hi 13 6) ≤ v3 →
      (∃ fu, wbG_takeAway_64 fu v1 (0 : Int32) hi hl Φ)) ∧
    (¬ ((hi 13 6) ≤ v3) →
      vp_in v3 6 ∧
      vp_in v3 6 ∧
      vp_in v3 6 ∧
      vp_in v3 6 ∧
      wbG_takeAway_4 n ((((hl 18 (v3.toNatClampNeg)) ^^^ (hl 15 (v3.toNatClampNeg))) &&& ((u2 hl 19 (v3.toNatClampNeg) (((hl 18 (v3.toNatClampNeg)) ^^^ (hl 15 (v3.toNatClampNeg))) ^^^ v1)) 15 (v3.toNatClampNeg))) ||| ((((hl 18 (v3.toNatClampNeg)) ^^^ (hl 15 (v3.toNatClampNeg))) ^^^ (-1 : Int64)) &&& v1)) (v3 + Int32.ofInt (1)) hi (u2 hl 19 (v3.toNatClampNeg) (((hl 18 (v3.toNatClampNeg)) ^^^ (hl 15 (v3.toNatClampNeg))) ^^^ v1)) Φ)
def wbG_takeAway_0 (hi : HI) (hl : HL) (Φ : Int64 → HI → HL → Prop) : Prop :=
  (∃ fu, wbG_takeAway_4 fu (0 : Int64) (0 : Int32) hi hl Φ)
def wpG_takeAway (hi : HI) (hl : HL) (Φ : Int64 → HI → HL → Prop) : Prop :=
  wbG_takeAway_0 hi hl Φ
def wbG_divide_25 (k14 : (Int32 → Int32 → HI → HL → Prop)) : Nat → Int32 → Int32 → Int32 → HI → HL → (HI → HL → Prop) → Prop
  | 0, _, _, _, _, _, _ => False
  | n + 1, v1, v2, v3, hi, hl, Φ =>
    (v3 ≤ 0 →
      vp_in v2 6 ∧
      vp_in (0 : Int32) 6 ∧
      wpG_takeAway hi (u2 hl 18 ((0 : Int32).toNatClampNeg) (hl 14 (v2.toNatClampNeg))) (fun r3 hi4 hl5 =>
        vp_in v2 6 ∧
        k14 v1 (v2 + Int32.ofInt (-1)) hi4 (u2 hl5 17 (v2.toNatClampNeg) r3))) ∧
    (¬ (v3 ≤ 0) →
      vp_in (v3 - (1 : Int32)) 6 ∧
      vp_in v3 6 ∧
      wbG_divide_25 k14 n v1 v2 (v3 + Int32.ofInt (-1)) hi (u2 hl 18 (v3.toNatClampNeg) (hl 18 ((v3 - (1 : Int32)).toNatClampNeg))) Φ)
def wbG_divide_14 : Nat → Int32 → Int32 → HI → HL → (HI → HL → Prop) → Prop
  | 0, _, _, _, _, _ => False
  | n + 1, v1, v2, hi, hl, Φ =>
    (v2 < 0 →
      (v1 = 0 →
        Φ hi hl) ∧
      (¬ (v1 = 0) →
        cpIn (0 : Int32) (0 : Int32) (hi 13 6) 6 ∧
        Φ hi (cpL hl 4 (0 : Int32) 3 (0 : Int32) (hi 13 6)))) ∧
    (¬ (v2 < 0) →
      (∃ fu, wbG_divide_25 (fun v1 v2 hi hl => wbG_divide_14 n v1 v2 hi hl Φ) fu v1 v2 ((hi 13 6) - (1 : Int32)) hi hl Φ))
def wbG_divide_0 (v1 : Int32) (hi : HI) (hl : HL) (Φ : HI → HL → Prop) : Prop :=
  wpG_clear 4 hi hl (fun hi2 hl3 =>
    (∃ fu, wbG_divide_14 fu v1 ((hi2 13 6) - (1 : Int32)) hi2 hl3 Φ))
def wpG_divide (v1 : Int32) (hi : HI) (hl : HL) (Φ : HI → HL → Prop) : Prop :=
  wbG_divide_0 v1 hi hl Φ
def wbG_multiply_15 (k2 : (Int32 → HI → HL → Prop)) : Nat → Int32 → Int64 → Int32 → HI → HL → (HI → HL → Prop) → Prop
  | 0, _, _, _, _, _, _ => False
  | n + 1, v1, v2, v4, hi, hl, Φ =>
    ((hi 13 6) ≤ v4 →
      k2 (v1 + Int32.ofInt (1)) hi hl) ∧
    (¬ ((hi 13 6) ≤ v4) →
      vp_in (v4 - v1) 6 ∧
      vp_in v1 6 ∧
      vp_in v4 6 ∧
      vp_in v4 6 ∧
      wpG_carryOf (hl 17 (v4.toNatClampNeg)) ((hl 14 ((v4 - v1).toNatClampNeg)) &&& (hl 15 (v1.toNatClampNeg))) v2 hi hl (fun r5 hi6 hl7 =>
        vp_in v4 6 ∧
        wbG_multiply_15 k2 n v1 r5 (v4 + Int32.ofInt (1)) hi6 (u2 hl7 17 (v4.toNatClampNeg) (((hl 17 (v4.toNatClampNeg)) ^^^ ((hl 14 ((v4 - v1).toNatClampNeg)) &&& (hl 15 (v1.toNatClampNeg)))) ^^^ v2)) Φ))
def wbG_multiply_2 : Nat → Int32 → HI → HL → (HI → HL → Prop) → Prop
  | 0, _, _, _, _ => False
  | n + 1, v1, hi, hl, Φ =>
    ((hi 13 6) ≤ v1 →
      Φ hi hl) ∧
    (¬ ((hi 13 6) ≤ v1) →
      (∃ fu, wbG_multiply_15 (fun v1 hi hl => wbG_multiply_2 n v1 hi hl Φ) fu v1 (0 : Int64) v1 hi hl Φ))
def wbG_multiply_0 (hi : HI) (hl : HL) (Φ : HI → HL → Prop) : Prop :=
  (∃ fu, wbG_multiply_2 fu (0 : Int32) hi hl Φ)
def wpG_multiply (hi : HI) (hl : HL) (Φ : HI → HL → Prop) : Prop :=
  wbG_multiply_0 hi hl Φ
def wbG_shiftLeft_70 (k19 : (Int32 → HI → HL → Prop)) (k38 : (Int32 → Int32 → Int32 → HI → HL → Prop)) (v1 : Int32) (v2 : Int32) (v3 : Int32) (q0 : Nat) (q1 : Int32) (q2 : Int64) (q3 : Int64) (hi : HI) (hl : HL) (Φ : HI → HL → Prop) : Prop :=
  vp_in v3 6 ∧
  wpG_choose q2 q3 (hl 17 (v3.toNatClampNeg)) hi hl (fun r2 hi3 hl4 =>
    vp_in q1 6 ∧
    k38 v1 v2 (v3 + Int32.ofInt (-1)) hi3 (u2 hl4 (14 + q0) (q1.toNatClampNeg) r2))
def wbG_shiftLeft_38 (k19 : (Int32 → HI → HL → Prop)) : Nat → Int32 → Int32 → Int32 → HI → HL → (HI → HL → Prop) → Prop
  | 0, _, _, _, _, _, _ => False
  | n + 1, v1, v2, v3, hi, hl, Φ =>
    (v3 < 0 →
      k19 (v1 + Int32.ofInt (1)) hi hl) ∧
    (¬ (v3 < 0) →
      vp_in v1 6 ∧
      (v3 < v2 →
        wbG_shiftLeft_70 k19 (fun v1 v2 v3 hi hl => wbG_shiftLeft_38 k19 n v1 v2 v3 hi hl Φ) v1 v2 v3 3 v3 (hl 15 (v1.toNatClampNeg)) (0 : Int64) hi hl Φ) ∧
      (¬ (v3 < v2) →
        vp_in (v3 - v2) 6 ∧
        wbG_shiftLeft_70 k19 (fun v1 v2 v3 hi hl => wbG_shiftLeft_38 k19 n v1 v2 v3 hi hl Φ) v1 v2 v3 3 v3 (hl 15 (v1.toNatClampNeg)) (hl 17 ((v3 - v2).toNatClampNeg)) hi hl Φ))
def wbG_shiftLeft_19 : Nat → Int32 → HI → HL → (HI → HL → Prop) → Prop
  | 0, _, _, _, _ => False
  | n + 1, v1, hi, hl, Φ =>
    ((hi 13 6) ≤ v1 →
      Φ hi hl) ∧
    (¬ ((hi 13 6) ≤ v1) →
      (∃ fu, wbG_shiftLeft_38 (fun v1 hi hl => wbG_shiftLeft_19 n v1 hi hl Φ) fu v1 ((1 : Int32) <<< (v1 &&& 31)) ((hi 13 6) - (1 : Int32)) hi hl Φ))
def wbG_shiftLeft_0 (hi : HI) (hl : HL) (Φ : HI → HL → Prop) : Prop :=
  cpIn (0 : Int32) (0 : Int32) (hi 13 6) 6 ∧
  (∃ fu, wbG_shiftLeft_19 fu (0 : Int32) hi (cpL hl 0 (0 : Int32) 3 (0 : Int32) (hi 13 6)) Φ)
def wpG_shiftLeft (hi : HI) (hl : HL) (Φ : HI → HL → Prop) : Prop :=
  wbG_shiftLeft_0 hi hl Φ
def wbG_shiftRight_74 (k19 : (Int32 → HI → HL → Prop)) (k33 : (Int32 → Int32 → Int32 → HI → HL → Prop)) (v1 : Int32) (v2 : Int32) (v3 : Int32) (q0 : Nat) (q1 : Int32) (q2 : Int64) (q3 : Int64) (hi : HI) (hl : HL) (Φ : HI → HL → Prop) : Prop :=
  vp_in v3 6 ∧
  wpG_choose q2 q3 (hl 17 (v3.toNatClampNeg)) hi hl (fun r2 hi3 hl4 =>
    vp_in q1 6 ∧
    k33 v1 v2 (v3 + Int32.ofInt (1)) hi3 (u2 hl4 (14 + q0) (q1.toNatClampNeg) r2))
def wbG_shiftRight_33 (k19 : (Int32 → HI → HL → Prop)) : Nat → Int32 → Int32 → Int32 → HI → HL → (HI → HL → Prop) → Prop
  | 0, _, _, _, _, _, _ => False
  | n + 1, v1, v2, v3, hi, hl, Φ =>
    ((hi 13 6) ≤ v3 →
      k19 (v1 + Int32.ofInt (1)) hi hl) ∧
    (¬ ((hi 13 6) ≤ v3) →
      vp_in v1 6 ∧
      ((hi 13 6) ≤ (v3 + v2) →
        wbG_shiftRight_74 k19 (fun v1 v2 v3 hi hl => wbG_shiftRight_33 k19 n v1 v2 v3 hi hl Φ) v1 v2 v3 3 v3 (hl 15 (v1.toNatClampNeg)) (0 : Int64) hi hl Φ) ∧
      (¬ ((hi 13 6) ≤ (v3 + v2)) →
        vp_in (v3 + v2) 6 ∧
        wbG_shiftRight_74 k19 (fun v1 v2 v3 hi hl => wbG_shiftRight_33 k19 n v1 v2 v3 hi hl Φ) v1 v2 v3 3 v3 (hl 15 (v1.toNatClampNeg)) (hl 17 ((v3 + v2).toNatClampNeg)) hi hl Φ))
def wbG_shiftRight_19 : Nat → Int32 → HI → HL → (HI → HL → Prop) → Prop
  | 0, _, _, _, _ => False
  | n + 1, v1, hi, hl, Φ =>
    ((hi 13 6) ≤ v1 →
      Φ hi hl) ∧
    (¬ ((hi 13 6) ≤ v1) →
      (∃ fu, wbG_shiftRight_33 (fun v1 hi hl => wbG_shiftRight_19 n v1 hi hl Φ) fu v1 ((1 : Int32) <<< (v1 &&& 31)) (0 : Int32) hi hl Φ))
def wbG_shiftRight_0 (hi : HI) (hl : HL) (Φ : HI → HL → Prop) : Prop :=
  cpIn (0 : Int32) (0 : Int32) (hi 13 6) 6 ∧
  (∃ fu, wbG_shiftRight_19 fu (0 : Int32) hi (cpL hl 0 (0 : Int32) 3 (0 : Int32) (hi 13 6)) Φ)
def wpG_shiftRight (hi : HI) (hl : HL) (Φ : HI → HL → Prop) : Prop :=
  wbG_shiftRight_0 hi hl Φ
def wbG_reckon_124 (q1 : Int32) (hi : HI) (hl : HL) (Φ : HI → HL → Prop) : Prop :=
  wpG_divide q1 hi hl (fun hi2 hl3 =>
    Φ hi2 hl3)
def wbG_reckon_0 (v1 : Int32) (hi : HI) (hl : HL) (Φ : HI → HL → Prop) : Prop :=
  vp_in v1 31 ∧
  vp_in v1 31 ∧
  ((swC (v1.toNatClampNeg)) = 24 →
    wpG_addUp 1 0 (-1 : Int64) hi hl (fun hi4 hl5 =>
      Φ hi4 hl5)) ∧
  ((swC (v1.toNatClampNeg)) = 25 →
    wpG_addUp 0 1 (0 : Int64) hi hl (fun hi7 hl8 =>
      Φ hi7 hl8)) ∧
  ((swC (v1.toNatClampNeg)) = 26 →
    wpG_addUp 0 1 (-1 : Int64) hi hl (fun hi10 hl11 =>
      Φ hi10 hl11)) ∧
  ((swC (v1.toNatClampNeg)) = 27 →
    wpG_multiply hi hl (fun hi13 hl14 =>
      Φ hi13 hl14)) ∧
  ((swC (v1.toNatClampNeg)) = 28 →
    vp_in v1 31 ∧
    vp_in (14 : Int32) 31 ∧
    (v1 = (14 : Int32) →
      wbG_reckon_124 (1 : Int32) hi hl Φ) ∧
    (¬ (v1 = (14 : Int32)) →
      wbG_reckon_124 (0 : Int32) hi hl Φ)) ∧
  ((swC (v1.toNatClampNeg)) = 29 →
    vp_in v1 31 ∧
    vp_in (14 : Int32) 31 ∧
    (v1 = (14 : Int32) →
      wbG_reckon_124 (1 : Int32) hi hl Φ) ∧
    (¬ (v1 = (14 : Int32)) →
      wbG_reckon_124 (0 : Int32) hi hl Φ)) ∧
  ((swC (v1.toNatClampNeg)) = 30 →
    wpG_shiftLeft hi hl (fun hi20 hl21 =>
      Φ hi20 hl21)) ∧
  (¬ (swC (v1.toNatClampNeg)) = 24 → ¬ (swC (v1.toNatClampNeg)) = 25 → ¬ (swC (v1.toNatClampNeg)) = 26 → ¬ (swC (v1.toNatClampNeg)) = 27 → ¬ (swC (v1.toNatClampNeg)) = 28 → ¬ (swC (v1.toNatClampNeg)) = 29 → ¬ (swC (v1.toNatClampNeg)) = 30 → 
    wpG_shiftRight hi hl (fun hi23 hl24 =>
      Φ hi23 hl24))
def wpG_reckon (v1 : Int32) (hi : HI) (hl : HL) (Φ : HI → HL → Prop) : Prop :=
  wbG_reckon_0 v1 hi hl Φ
def wbG_join_0 (hi : HI) (hl : HL) (Φ : HI → HL → Prop) : Prop :=
  vp_in (hi 10 3) 31 ∧
  vp_in (hi 10 3) 31 ∧
  ((swC ((hi 10 3).toNatClampNeg)) = 8 →
    wpG_constant (hi 10 9) hi hl (fun hi4 hl5 =>
      Φ hi4 hl5)) ∧
  ((swC ((hi 10 3).toNatClampNeg)) = 9 →
    wpG_cut (hi 10 9) hi hl (fun hi7 hl8 =>
      Φ hi7 hl8)) ∧
  ((swC ((hi 10 3).toNatClampNeg)) = 10 →
    vp_in (hi 10 3) 31 ∧
    wpG_joinByBits (hi 10 3) hi hl (fun hi11 hl12 =>
      Φ hi11 hl12)) ∧
  ((swC ((hi 10 3).toNatClampNeg)) = 11 →
    vp_in (hi 10 3) 31 ∧
    wpG_joinByBits (hi 10 3) hi hl (fun hi15 hl16 =>
      Φ hi15 hl16)) ∧
  ((swC ((hi 10 3).toNatClampNeg)) = 12 →
    vp_in (hi 10 3) 31 ∧
    wpG_joinByBits (hi 10 3) hi hl (fun hi19 hl20 =>
      Φ hi19 hl20)) ∧
  ((swC ((hi 10 3).toNatClampNeg)) = 13 →
    vp_in (hi 10 3) 31 ∧
    wpG_joinByBits (hi 10 3) hi hl (fun hi23 hl24 =>
      Φ hi23 hl24)) ∧
  ((swC ((hi 10 3).toNatClampNeg)) = 14 →
    vp_in (hi 10 3) 31 ∧
    wpG_joinByBits (hi 10 3) hi hl (fun hi27 hl28 =>
      Φ hi27 hl28)) ∧
  ((swC ((hi 10 3).toNatClampNeg)) = 15 →
    vp_in (hi 10 3) 31 ∧
    wpG_compare (hi 10 3) hi hl (fun r30 hi31 hl32 =>
      vp_in (0 : Int32) 6 ∧
      Φ hi31 (u2 hl32 17 ((0 : Int32).toNatClampNeg) r30))) ∧
  ((swC ((hi 10 3).toNatClampNeg)) = 16 →
    vp_in (hi 10 3) 31 ∧
    wpG_compare (hi 10 3) hi hl (fun r35 hi36 hl37 =>
      vp_in (0 : Int32) 6 ∧
      Φ hi36 (u2 hl37 17 ((0 : Int32).toNatClampNeg) r35))) ∧
  ((swC ((hi 10 3).toNatClampNeg)) = 17 →
    vp_in (hi 10 3) 31 ∧
    wpG_compare (hi 10 3) hi hl (fun r40 hi41 hl42 =>
      vp_in (0 : Int32) 6 ∧
      Φ hi41 (u2 hl42 17 ((0 : Int32).toNatClampNeg) r40))) ∧
  ((swC ((hi 10 3).toNatClampNeg)) = 18 →
    vp_in (hi 10 3) 31 ∧
    wpG_compare (hi 10 3) hi hl (fun r45 hi46 hl47 =>
      vp_in (0 : Int32) 6 ∧
      Φ hi46 (u2 hl47 17 ((0 : Int32).toNatClampNeg) r45))) ∧
  ((swC ((hi 10 3).toNatClampNeg)) = 19 →
    vp_in (hi 10 3) 31 ∧
    wpG_arrange (hi 10 3) hi hl (fun hi51 hl52 =>
      Φ hi51 hl52)) ∧
  ((swC ((hi 10 3).toNatClampNeg)) = 20 →
    vp_in (hi 10 3) 31 ∧
    wpG_arrange (hi 10 3) hi hl (fun hi55 hl56 =>
      Φ hi55 hl56)) ∧
  ((swC ((hi 10 3).toNatClampNeg)) = 21 →
    vp_in (hi 10 3) 31 ∧
    wpG_arrange (hi 10 3) hi hl (fun hi59 hl60 =>
      Φ hi59 hl60)) ∧
  ((swC ((hi 10 3).toNatClampNeg)) = 22 →
    vp_in (hi 10 3) 31 ∧
    wpG_arrange (hi 10 3) hi hl (fun hi63 hl64 =>
      Φ hi63 hl64)) ∧
  ((swC ((hi 10 3).toNatClampNeg)) = 23 →
    vp_in (hi 10 3) 31 ∧
    wpG_arrange (hi 10 3) hi hl (fun hi67 hl68 =>
      Φ hi67 hl68)) ∧
  (¬ (swC ((hi 10 3).toNatClampNeg)) = 8 → ¬ (swC ((hi 10 3).toNatClampNeg)) = 9 → ¬ (swC ((hi 10 3).toNatClampNeg)) = 10 → ¬ (swC ((hi 10 3).toNatClampNeg)) = 11 → ¬ (swC ((hi 10 3).toNatClampNeg)) = 12 → ¬ (swC ((hi 10 3).toNatClampNeg)) = 13 → ¬ (swC ((hi 10 3).toNatClampNeg)) = 14 → ¬ (swC ((hi 10 3).toNatClampNeg)) = 15 → ¬ (swC ((hi 10 3).toNatClampNeg)) = 16 → ¬ (swC ((hi 10 3).toNatClampNeg)) = 17 → ¬ (swC ((hi 10 3).toNatClampNeg)) = 18 → ¬ (swC ((hi 10 3).toNatClampNeg)) = 19 → ¬ (swC ((hi 10 3).toNatClampNeg)) = 20 → ¬ (swC ((hi 10 3).toNatClampNeg)) = 21 → ¬ (swC ((hi 10 3).toNatClampNeg)) = 22 → ¬ (swC ((hi 10 3).toNatClampNeg)) = 23 → 
    vp_in (hi 10 3) 31 ∧
    wpG_reckon (hi 10 3) hi hl (fun hi71 hl72 =>
      Φ hi71 hl72))
def wpG_join (hi : HI) (hl : HL) (Φ : HI → HL → Prop) : Prop :=
  wbG_join_0 hi hl Φ
def wbG_widthOf_0 (v1 : Int32) (hi : HI) (hl : HL) (Φ : Int32 → HI → HL → Prop) : Prop :=
  ((hi 10 7) ≤ v1 →
    Φ (0 : Int32) hi hl) ∧
  (¬ ((hi 10 7) ≤ v1) →
    vp_in v1 3 ∧
    vp_in (hi 11 (v1.toNatClampNeg)) 20 ∧
    wpC_bitsOf (hi (24 + ((hi 11 (v1.toNatClampNeg)).toNatClampNeg)) 2) hi hl (fun r3 hi4 hl5 =>
      Φ r3 hi4 hl5))
def wpG_widthOf (v1 : Int32) (hi : HI) (hl : HL) (Φ : Int32 → HI → HL → Prop) : Prop :=
  wbG_widthOf_0 v1 hi hl Φ
def wbG_load_66 (k15 : (Nat → Int32 → Int32 → Int32 → Int32 → HI → HL → Prop)) (v0 : Nat) (v2 : Int32) (v4 : Int32) (v5 : Int32) (v6 : Int32) (q0 : Nat) (q1 : Int32) (q2 : Int64) (hi : HI) (hl : HL) (Φ : HI → HL → Prop) : Prop :=
  vp_in q1 6 ∧
  k15 v0 v2 v4 v5 (v6 + Int32.ofInt (1)) hi (u2 hl (14 + q0) (q1.toNatClampNeg) q2)
def wbG_load_15 : Nat → Nat → Int32 → Int32 → Int32 → Int32 → HI → HL → (HI → HL → Prop) → Prop
  | 0, _, _, _, _, _, _, _, _ => False
  | n + 1, v0, v2, v4, v5, v6, hi, hl, Φ =>
    (v5 ≤ v6 →
      Φ hi hl) ∧
    (¬ (v5 ≤ v6) →
      vp_in v2 3 ∧
      vp_in (hi 11 (v2.toNatClampNeg)) 20 ∧
      vp_in ((v6 * (4 : Int32)) + v4) 24 ∧
      vp_in v2 3 ∧
      ((hi 12 (v2.toNatClampNeg)) = 0 →
        wbG_load_66 (fun v0 v2 v4 v5 v6 hi hl => wbG_load_15 n v0 v2 v4 v5 v6 hi hl Φ) v0 v2 v4 v5 v6 v0 v6 (hl (44 + ((hi 11 (v2.toNatClampNeg)).toNatClampNeg)) (((v6 * (4 : Int32)) + v4).toNatClampNeg)) hi hl Φ) ∧
      (¬ ((hi 12 (v2.toNatClampNeg)) = 0) →
        wbG_load_66 (fun v0 v2 v4 v5 v6 hi hl => wbG_load_15 n v0 v2 v4 v5 v6 hi hl Φ) v0 v2 v4 v5 v6 v0 v6 ((hl (44 + ((hi 11 (v2.toNatClampNeg)).toNatClampNeg)) (((v6 * (4 : Int32)) + v4).toNatClampNeg)) ^^^ (-1 : Int64)) hi hl Φ))
def wbG_load_0 (v0 : Nat) (v2 : Int32) (v4 : Int32) (hi : HI) (hl : HL) (Φ : HI → HL → Prop) : Prop :=
  wpG_clear v0 hi hl (fun hi2 hl3 =>
    wpG_widthOf v2 hi2 hl3 (fun r4 hi5 hl6 =>
      (∃ fu, wbG_load_15 fu v0 v2 v4 r4 (0 : Int32) hi5 hl6 Φ)))
def wpG_load (v0 : Nat) (v2 : Int32) (v4 : Int32) (hi : HI) (hl : HL) (Φ : HI → HL → Prop) : Prop :=
  wbG_load_0 v0 v2 v4 hi hl Φ
def wbG_build_91 (k34 : (Nat → Int32 → HI → HL → Prop)) : Nat → Nat → Int32 → Int32 → HI → HL → (HI → HL → Prop) → Prop
  | 0, _, _, _, _, _, _ => False
  | n + 1, v2, v4, v5, hi, hl, Φ =>
    ((hi 13 6) ≤ v5 →
      k34 v2 (v4 + Int32.ofInt (1)) hi hl) ∧
    (¬ ((hi 13 6) ≤ v5) →
      vp_in v5 6 ∧
      vp_in ((v5 * (4 : Int32)) + v4) 24 ∧
      wbG_build_91 k34 n v2 v4 (v5 + Int32.ofInt (1)) hi (u2 hl (44 + v2) (((v5 * (4 : Int32)) + v4).toNatClampNeg) (hl 17 (v5.toNatClampNeg))) Φ)
def wbG_build_34 : Nat → Nat → Int32 → HI → HL → (HI → HL → Prop) → Prop
  | 0, _, _, _, _, _ => False
  | n + 1, v2, v4, hi, hl, Φ =>
    ((4 : Int32) ≤ v4 →
      Φ hi hl) ∧
    (¬ ((4 : Int32) ≤ v4) →
      wpG_load 0 (0 : Int32) v4 hi hl (fun hi2 hl3 =>
        wpG_load 1 (1 : Int32) v4 hi2 hl3 (fun hi5 hl6 =>
          wpG_load 2 (2 : Int32) v4 hi5 hl6 (fun hi8 hl9 =>
            wpG_clear 3 hi8 hl9 (fun hi11 hl12 =>
              wpG_join hi11 hl12 (fun hi14 hl15 =>
                (∃ fu, wbG_build_91 (fun v2 v4 hi hl => wbG_build_34 n v2 v4 hi hl Φ) fu v2 v4 (0 : Int32) hi14 hl15 Φ)))))))
def wbG_build_0 (v2 : Nat) (hi : HI) (hl : HL) (Φ : HI → HL → Prop) : Prop :=
  wpC_bitsOf (hi (24 + v2) 2) hi hl (fun r1 hi2 hl3 =>
    wpG_widthOf (0 : Int32) (u2 hi2 13 6 r1) hl3 (fun r4 hi5 hl6 =>
      wpG_widthOf (1 : Int32) (u2 hi5 13 7 r4) hl6 (fun r7 hi8 hl9 =>
        (∃ fu, wbG_build_34 fu v2 (0 : Int32) (u2 hi8 13 8 r7) hl9 Φ))))
def wpG_build (v2 : Nat) (hi : HI) (hl : HL) (Φ : HI → HL → Prop) : Prop :=
  wbG_build_0 v2 hi hl Φ
def wbK_isFree_14 (hi : HI) (hl : HL) (Φ : Int32 → HI → HL → Prop) : Prop :=
  i01 (1 : Int32) ∧
  Φ (1 : Int32) hi hl
def wbK_isFree_0 (v0 : Int32) (hi : HI) (hl : HL) (Φ : Int32 → HI → HL → Prop) : Prop :=
  vp_in v0 31 ∧
  vp_in (1 : Int32) 31 ∧
  (v0 = (1 : Int32) →
    wbK_isFree_14 hi hl Φ) ∧
  (¬ (v0 = (1 : Int32)) →
    vp_in v0 31 ∧
    vp_in (2 : Int32) 31 ∧
    (v0 = (2 : Int32) →
      wbK_isFree_14 hi hl Φ) ∧
    (¬ (v0 = (2 : Int32)) →
      i01 (0 : Int32) ∧
      Φ (0 : Int32) hi hl))
def wpK_isFree (v0 : Int32) (hi : HI) (hl : HL) (Φ : Int32 → HI → HL → Prop) : Prop :=
  wbK_isFree_0 v0 hi hl Φ
def wbK_isHard_21 (hi : HI) (hl : HL) (Φ : Int32 → HI → HL → Prop) : Prop :=
  i01 (1 : Int32) ∧
  Φ (1 : Int32) hi hl
def wbK_isHard_0 (v0 : Int32) (hi : HI) (hl : HL) (Φ : Int32 → HI → HL → Prop) : Prop :=
  vp_in v0 31 ∧
  vp_in (12 : Int32) 31 ∧
  (v0 = (12 : Int32) →
    wbK_isHard_21 hi hl Φ) ∧
  (¬ (v0 = (12 : Int32)) →
    vp_in v0 31 ∧
    vp_in (13 : Int32) 31 ∧
    (v0 = (13 : Int32) →
      wbK_isHard_21 hi hl Φ) ∧
    (¬ (v0 = (13 : Int32)) →
      vp_in v0 31 ∧
      vp_in (14 : Int32) 31 ∧
      (v0 = (14 : Int32) →
        wbK_isHard_21 hi hl Φ) ∧
      (¬ (v0 = (14 : Int32)) →
        i01 (0 : Int32) ∧
        Φ (0 : Int32) hi hl)))
def wpK_isHard (v0 : Int32) (hi : HI) (hl : HL) (Φ : Int32 → HI → HL → Prop) : Prop :=
  wbK_isHard_0 v0 hi hl Φ
def wbB_take_207 (v2 : Nat) (q1 : Int32) (q2 : Int32) (hi : HI) (hl : HL) (Φ : HI → HL → Prop) : Prop :=
  wpG_build v2 (u2 hi 5 5 (q1 + q2)) hl (fun hi2 hl3 =>
    Φ hi2 hl3)
def wbB_take_68 (v2 : Nat) (q0 : Nat) (q1 : Int32) (hi : HI) (hl : HL) (Φ : HI → HL → Prop) : Prop :=
  i01 q1 ∧
  vp_in ((u2 (u2 hi (24 + q0) 3 q1) 5 2 (((u2 hi (24 + q0) 3 q1) 5 2) + (1 : Int32))) 10 3) 31 ∧
  vp_in ((u2 (u2 hi (24 + q0) 3 q1) 5 2 (((u2 hi (24 + q0) 3 q1) 5 2) + (1 : Int32))) 10 3) 31 ∧
  ((swC (((u2 (u2 hi (24 + q0) 3 q1) 5 2 (((u2 hi (24 + q0) 3 q1) 5 2) + (1 : Int32))) 10 3).toNatClampNeg)) = 1 →
    Φ (u2 (u2 hi (24 + q0) 3 q1) 5 2 (((u2 hi (24 + q0) 3 q1) 5 2) + (1 : Int32))) hl) ∧
  ((swC (((u2 (u2 hi (24 + q0) 3 q1) 5 2 (((u2 hi (24 + q0) 3 q1) 5 2) + (1 : Int32))) 10 3).toNatClampNeg)) = 2 →
    wpB_addInput v2 (u2 (u2 hi (24 + q0) 3 q1) 5 2 (((u2 hi (24 + q0) 3 q1) 5 2) + (1 : Int32))) hl (fun hi5 hl6 =>
      Φ hi5 hl6)) ∧
  ((swC (((u2 (u2 hi (24 + q0) 3 q1) 5 2 (((u2 hi (24 + q0) 3 q1) 5 2) + (1 : Int32))) 10 3).toNatClampNeg)) = 3 →
    wpB_addState v2 (u2 (u2 hi (24 + q0) 3 q1) 5 2 (((u2 hi (24 + q0) 3 q1) 5 2) + (1 : Int32))) hl (fun hi8 hl9 =>
      Φ hi8 hl9)) ∧
  ((swC (((u2 (u2 hi (24 + q0) 3 q1) 5 2 (((u2 hi (24 + q0) 3 q1) 5 2) + (1 : Int32))) 10 3).toNatClampNeg)) = 4 →
    wpB_setInit (u2 (u2 hi (24 + q0) 3 q1) 5 2 (((u2 hi (24 + q0) 3 q1) 5 2) + (1 : Int32))) hl (fun hi11 hl12 =>
      Φ hi11 hl12)) ∧
  ((swC (((u2 (u2 hi (24 + q0) 3 q1) 5 2 (((u2 hi (24 + q0) 3 q1) 5 2) + (1 : Int32))) 10 3).toNatClampNeg)) = 5 →
    wpB_setNext (u2 (u2 hi (24 + q0) 3 q1) 5 2 (((u2 hi (24 + q0) 3 q1) 5 2) + (1 : Int32))) hl (fun hi14 hl15 =>
      Φ hi14 hl15)) ∧
  ((swC (((u2 (u2 hi (24 + q0) 3 q1) 5 2 (((u2 hi (24 + q0) 3 q1) 5 2) + (1 : Int32))) 10 3).toNatClampNeg)) = 6 →
    wpB_addBad (u2 (u2 hi (24 + q0) 3 q1) 5 2 (((u2 hi (24 + q0) 3 q1) 5 2) + (1 : Int32))) hl (fun hi17 hl18 =>
      Φ hi17 hl18)) ∧
  ((swC (((u2 (u2 hi (24 + q0) 3 q1) 5 2 (((u2 hi (24 + q0) 3 q1) 5 2) + (1 : Int32))) 10 3).toNatClampNeg)) = 7 →
    wpB_addConstraint (u2 (u2 hi (24 + q0) 3 q1) 5 2 (((u2 hi (24 + q0) 3 q1) 5 2) + (1 : Int32))) hl (fun hi20 hl21 =>
      Φ hi20 hl21)) ∧
  (¬ (swC (((u2 (u2 hi (24 + q0) 3 q1) 5 2 (((u2 hi (24 + q0) 3 q1) 5 2) + (1 : Int32))) 10 3).toNatClampNeg)) = 1 → ¬ (swC (((u2 (u2 hi (24 + q0) 3 q1) 5 2 (((u2 hi (24 + q0) 3 q1) 5 2) + (1 : Int32))) 10 3).toNatClampNeg)) = 2 → ¬ (swC (((u2 (u2 hi (24 + q0) 3 q1) 5 2 (((u2 hi (24 + q0) 3 q1) 5 2) + (1 : Int32))) 10 3).toNatClampNeg)) = 3 → ¬ (swC (((u2 (u2 hi (24 + q0) 3 q1) 5 2 (((u2 hi (24 + q0) 3 q1) 5 2) + (1 : Int32))) 10 3).toNatClampNeg)) = 4 → ¬ (swC (((u2 (u2 hi (24 + q0) 3 q1) 5 2 (((u2 hi (24 + q0) 3 q1) 5 2) + (1 : Int32))) 10 3).toNatClampNeg)) = 5 → ¬ (swC (((u2 (u2 hi (24 + q0) 3 q1) 5 2 (((u2 hi (24 + q0) 3 q1) 5 2) + (1 : Int32))) 10 3).toNatClampNeg)) = 6 → ¬ (swC (((u2 (u2 hi (24 + q0) 3 q1) 5 2 (((u2 hi (24 + q0) 3 q1) 5 2) + (1 : Int32))) 10 3).toNatClampNeg)) = 7 → 
    vp_in ((u2 (u2 hi (24 + q0) 3 q1) 5 2 (((u2 hi (24 + q0) 3 q1) 5 2) + (1 : Int32))) 10 3) 31 ∧
    wpK_isHard ((u2 (u2 hi (24 + q0) 3 q1) 5 2 (((u2 hi (24 + q0) 3 q1) 5 2) + (1 : Int32))) 10 3) (u2 (u2 hi (24 + q0) 3 q1) 5 2 (((u2 hi (24 + q0) 3 q1) 5 2) + (1 : Int32))) hl (fun r23 hi24 hl25 =>
      (r23 = 0 →
        wbB_take_207 v2 ((u2 (u2 hi (24 + q0) 3 q1) 5 2 (((u2 hi (24 + q0) 3 q1) 5 2) + (1 : Int32))) 5 5) (0 : Int32) hi24 hl25 Φ) ∧
      (¬ (r23 = 0) →
        wbB_take_207 v2 ((u2 (u2 hi (24 + q0) 3 q1) 5 2 (((u2 hi (24 + q0) 3 q1) 5 2) + (1 : Int32))) 5 5) (1 : Int32) hi24 hl25 Φ)))
def wbB_take_67 (v2 : Nat) (q0 : Nat) (hi : HI) (hl : HL) (Φ : HI → HL → Prop) : Prop :=
  wbB_take_68 v2 q0 (0 : Int32) hi hl Φ
def wbB_take_0 (hi : HI) (hl : HL) (Φ : HI → HL → Prop) : Prop :=
  ((hi 5 2) < (20 : Int32) →
    vp_in (hi 5 2) 20 ∧
    vp_in ((u2 (u2 (u2 hi (24 + ((hi 5 2).toNatClampNeg)) 0 (hi 10 2)) (24 + ((hi 5 2).toNatClampNeg)) 1 ((u2 hi (24 + ((hi 5 2).toNatClampNeg)) 0 (hi 10 2)) 10 3)) (24 + ((hi 5 2).toNatClampNeg)) 2 ((u2 (u2 hi (24 + ((hi 5 2).toNatClampNeg)) 0 (hi 10 2)) (24 + ((hi 5 2).toNatClampNeg)) 1 ((u2 hi (24 + ((hi 5 2).toNatClampNeg)) 0 (hi 10 2)) 10 3)) 10 4)) 10 3) 31 ∧
    wpK_isFree ((u2 (u2 (u2 hi (24 + ((hi 5 2).toNatClampNeg)) 0 (hi 10 2)) (24 + ((hi 5 2).toNatClampNeg)) 1 ((u2 hi (24 + ((hi 5 2).toNatClampNeg)) 0 (hi 10 2)) 10 3)) (24 + ((hi 5 2).toNatClampNeg)) 2 ((u2 (u2 hi (24 + ((hi 5 2).toNatClampNeg)) 0 (hi 10 2)) (24 + ((hi 5 2).toNatClampNeg)) 1 ((u2 hi (24 + ((hi 5 2).toNatClampNeg)) 0 (hi 10 2)) 10 3)) 10 4)) 10 3) (u2 (u2 (u2 hi (24 + ((hi 5 2).toNatClampNeg)) 0 (hi 10 2)) (24 + ((hi 5 2).toNatClampNeg)) 1 ((u2 hi (24 + ((hi 5 2).toNatClampNeg)) 0 (hi 10 2)) 10 3)) (24 + ((hi 5 2).toNatClampNeg)) 2 ((u2 (u2 hi (24 + ((hi 5 2).toNatClampNeg)) 0 (hi 10 2)) (24 + ((hi 5 2).toNatClampNeg)) 1 ((u2 hi (24 + ((hi 5 2).toNatClampNeg)) 0 (hi 10 2)) 10 3)) 10 4)) hl (fun r3 hi4 hl5 =>
      (r3 = 0 →
        wpB_allFixed hi4 hl5 (fun r6 hi7 hl8 =>
          (r6 = 0 →
            wbB_take_67 ((hi 5 2).toNatClampNeg) ((hi 5 2).toNatClampNeg) hi7 hl8 Φ) ∧
          (¬ (r6 = 0) →
            wbB_take_68 ((hi 5 2).toNatClampNeg) ((hi 5 2).toNatClampNeg) (1 : Int32) hi7 hl8 Φ))) ∧
      (¬ (r3 = 0) →
        wbB_take_67 ((hi 5 2).toNatClampNeg) ((hi 5 2).toNatClampNeg) hi4 hl5 Φ))) ∧
  (¬ ((hi 5 2) < (20 : Int32)) →
    Φ hi hl)
def wpB_take (hi : HI) (hl : HL) (Φ : HI → HL → Prop) : Prop :=
  wbB_take_0 hi hl Φ
def wbB_lastId_0 (hi : HI) (hl : HL) (Φ : Int32 → HI → HL → Prop) : Prop :=
  ((hi 5 2) ≤ 0 →
    Φ (0 : Int32) hi hl) ∧
  (¬ ((hi 5 2) ≤ 0) →
    vp_in ((hi 5 2) - (1 : Int32)) 20 ∧
    Φ (hi (24 + (((hi 5 2) - (1 : Int32)).toNatClampNeg)) 0) hi hl)
def wpB_lastId (hi : HI) (hl : HL) (Φ : Int32 → HI → HL → Prop) : Prop :=
  wbB_lastId_0 hi hl Φ
def wbD_faultOfLength_0 (v1 : Int32) (hi : HI) (hl : HL) (Φ : Int32 → HI → HL → Prop) : Prop :=
  ((hi 1 4) ≤ v1 →
    Φ (-1 : Int32) hi hl) ∧
  (¬ ((hi 1 4) ≤ v1) →
    Φ v1 hi hl)
def wpD_faultOfLength (v1 : Int32) (hi : HI) (hl : HL) (Φ : Int32 → HI → HL → Prop) : Prop :=
  wbD_faultOfLength_0 v1 hi hl Φ
def wbB_rowWith_2 : Nat → Int32 → Int32 → HI → HL → (Int32 → HI → HL → Prop) → Prop
  | 0, _, _, _, _, _ => False
  | n + 1, v1, v2, hi, hl, Φ =>
    ((hi 5 2) ≤ v2 →
      Φ (-1 : Int32) hi hl) ∧
    (¬ ((hi 5 2) ≤ v2) →
      vp_in v2 20 ∧
      ((hi (24 + (v2.toNatClampNeg)) 0) = v1 →
        Φ v2 hi hl) ∧
      (¬ ((hi (24 + (v2.toNatClampNeg)) 0) = v1) →
        wbB_rowWith_2 n v1 (v2 + Int32.ofInt (1)) hi hl Φ))
def wbB_rowWith_0 (v1 : Int32) (hi : HI) (hl : HL) (Φ : Int32 → HI → HL → Prop) : Prop :=
  (∃ fu, wbB_rowWith_2 fu v1 (0 : Int32) hi hl Φ)
def wpB_rowWith (v1 : Int32) (hi : HI) (hl : HL) (Φ : Int32 → HI → HL → Prop) : Prop :=
  wbB_rowWith_0 v1 hi hl Φ
def wbK_isNode_39 (hi : HI) (hl : HL) (Φ : Int32 → HI → HL → Prop) : Prop :=
  i01 (0 : Int32) ∧
  Φ (0 : Int32) hi hl
def wbK_isNode_0 (v0 : Int32) (hi : HI) (hl : HL) (Φ : Int32 → HI → HL → Prop) : Prop :=
  vp_in v0 31 ∧
  vp_in (0 : Int32) 31 ∧
  (v0 = (0 : Int32) →
    wbK_isNode_39 hi hl Φ) ∧
  (¬ (v0 = (0 : Int32)) →
    vp_in v0 31 ∧
    vp_in (27 : Int32) 31 ∧
    (v0 = (27 : Int32) →
      wbK_isNode_39 hi hl Φ) ∧
    (¬ (v0 = (27 : Int32)) →
      vp_in v0 31 ∧
      vp_in (28 : Int32) 31 ∧
      (v0 = (28 : Int32) →
        wbK_isNode_39 hi hl Φ) ∧
      (¬ (v0 = (28 : Int32)) →
        vp_in v0 31 ∧
        vp_in (29 : Int32) 31 ∧
        (v0 = (29 : Int32) →
          wbK_isNode_39 hi hl Φ) ∧
        (¬ (v0 = (29 : Int32)) →
          vp_in v0 31 ∧
          vp_in (30 : Int32) 31 ∧
          (v0 = (30 : Int32) →
            wbK_isNode_39 hi hl Φ) ∧
          (¬ (v0 = (30 : Int32)) →
            i01 (1 : Int32) ∧
            Φ (1 : Int32) hi hl)))))
def wpK_isNode (v0 : Int32) (hi : HI) (hl : HL) (Φ : Int32 → HI → HL → Prop) : Prop :=
  wbK_isNode_0 v0 hi hl Φ
def wbB_nodeWith_30 (hi : HI) (hl : HL) (Φ : Int32 → HI → HL → Prop) : Prop :=
  Φ (-1 : Int32) hi hl
def wbB_nodeWith_0 (v1 : Int32) (hi : HI) (hl : HL) (Φ : Int32 → HI → HL → Prop) : Prop :=
  wpB_rowWith v1 hi hl (fun r1 hi2 hl3 =>
    (r1 = (-1 : Int32) →
      wbB_nodeWith_30 hi2 hl3 Φ) ∧
    (¬ (r1 = (-1 : Int32)) →
      vp_in r1 20 ∧
      vp_in (hi2 (24 + (r1.toNatClampNeg)) 1) 31 ∧
      wpK_isNode (hi2 (24 + (r1.toNatClampNeg)) 1) hi2 hl3 (fun r6 hi7 hl8 =>
        (r6 = 0 →
          wbB_nodeWith_30 hi7 hl8 Φ) ∧
        (¬ (r6 = 0) →
          Φ r1 hi7 hl8))))
def wpB_nodeWith (v1 : Int32) (hi : HI) (hl : HL) (Φ : Int32 → HI → HL → Prop) : Prop :=
  wbB_nodeWith_0 v1 hi hl Φ
def wbD_isStateAsS_29 (hi : HI) (hl : HL) (Φ : Int32 → HI → HL → Prop) : Prop :=
  i01 (0 : Int32) ∧
  Φ (0 : Int32) hi hl
def wbD_isStateAsS_0 (v1 : Nat) (v2 : Int32) (hi : HI) (hl : HL) (Φ : Int32 → HI → HL → Prop) : Prop :=
  (v2 = 0 →
    vp_in (hi (24 + v1) 1) 31 ∧
    vp_in (2 : Int32) 31 ∧
    ((hi (24 + v1) 1) = (2 : Int32) →
      ((hi (24 + v1) 2) = (hi 10 4) →
        i01 (1 : Int32) ∧
        Φ (1 : Int32) hi hl) ∧
      (¬ ((hi (24 + v1) 2) = (hi 10 4)) →
        wbD_isStateAsS_29 hi hl Φ)) ∧
    (¬ ((hi (24 + v1) 1) = (2 : Int32)) →
      wbD_isStateAsS_29 hi hl Φ)) ∧
  (¬ (v2 = 0) →
    wbD_isStateAsS_29 hi hl Φ)
def wpD_isStateAsS (v1 : Nat) (v2 : Int32) (hi : HI) (hl : HL) (Φ : Int32 → HI → HL → Prop) : Prop :=
  wbD_isStateAsS_0 v1 v2 hi hl Φ
def wbD_suits_322 (hi : HI) (hl : HL) (Φ : Int32 → HI → HL → Prop) : Prop :=
  i01 (0 : Int32) ∧
  Φ (0 : Int32) hi hl
def wbD_suits_276 (hi : HI) (hl : HL) (Φ : Int32 → HI → HL → Prop) : Prop :=
  i01 (0 : Int32) ∧
  Φ (0 : Int32) hi hl
def wbD_suits_298 (hi : HI) (hl : HL) (Φ : Int32 → HI → HL → Prop) : Prop :=
  i01 (0 : Int32) ∧
  Φ (0 : Int32) hi hl
def wbD_suits_0 (v1 : Int32) (v2 : Nat) (v3 : Int32) (hi : HI) (hl : HL) (Φ : Int32 → HI → HL → Prop) : Prop :=
  (v1 = 98 →
    wpC_isArray (hi (24 + v2) 2) hi hl (fun r1 hi2 hl3 =>
      (r1 = 0 →
        i01 (1 : Int32) ∧
        Φ (1 : Int32) hi2 hl3) ∧
      (¬ (r1 = 0) →
        i01 (0 : Int32) ∧
        Φ (0 : Int32) hi2 hl3))) ∧
  (v1 = 99 →
    i01 (0 : Int32) ∧
    Φ (0 : Int32) hi hl) ∧
  (v1 = 100 →
    i01 (0 : Int32) ∧
    Φ (0 : Int32) hi hl) ∧
  (v1 = 101 →
    ((hi (24 + v2) 2) = ((hi 10 4) - (4 : Int32)) →
      i01 (1 : Int32) ∧
      Φ (1 : Int32) hi hl) ∧
    (¬ ((hi (24 + v2) 2) = ((hi 10 4) - (4 : Int32))) →
      i01 (0 : Int32) ∧
      Φ (0 : Int32) hi hl)) ∧
  (v1 = 102 →
    ((hi (24 + v2) 2) = (hi 10 4) →
      ((hi (24 + v2) 3) = 0 →
        wbD_suits_322 hi hl Φ) ∧
      (¬ ((hi (24 + v2) 3) = 0) →
        i01 (1 : Int32) ∧
        Φ (1 : Int32) hi hl)) ∧
    (¬ ((hi (24 + v2) 2) = (hi 10 4)) →
      wbD_suits_322 hi hl Φ)) ∧
  (v1 = 103 →
    i01 (0 : Int32) ∧
    Φ (0 : Int32) hi hl) ∧
  (v1 = 104 →
    i01 (0 : Int32) ∧
    Φ (0 : Int32) hi hl) ∧
  (v1 = 105 →
    wpD_isStateAsS v2 v3 hi hl (fun r13 hi14 hl15 =>
      (r13 = 0 →
        wbD_suits_276 hi14 hl15 Φ) ∧
      (¬ (r13 = 0) →
        ((hi14 (24 + v2) 5) = (-1 : Int32) →
          i01 (1 : Int32) ∧
          Φ (1 : Int32) hi14 hl15) ∧
        (¬ ((hi14 (24 + v2) 5) = (-1 : Int32)) →
          wbD_suits_276 hi14 hl15 Φ)))) ∧
  (v1 = 106 →
    i01 (0 : Int32) ∧
    Φ (0 : Int32) hi hl) ∧
  (v1 = 107 →
    i01 (0 : Int32) ∧
    Φ (0 : Int32) hi hl) ∧
  (v1 = 108 →
    ((hi (24 + v2) 2) = (hi 10 8) →
      i01 (1 : Int32) ∧
      Φ (1 : Int32) hi hl) ∧
    (¬ ((hi (24 + v2) 2) = (hi 10 8)) →
      i01 (0 : Int32) ∧
      Φ (0 : Int32) hi hl)) ∧
  (v1 = 109 →
    ((hi 10 4) ≤ (hi (24 + v2) 2) →
      i01 (0 : Int32) ∧
      Φ (0 : Int32) hi hl) ∧
    (¬ ((hi 10 4) ≤ (hi (24 + v2) 2)) →
      i01 (1 : Int32) ∧
      Φ (1 : Int32) hi hl)) ∧
  (v1 = 110 →
    i01 (1 : Int32) ∧
    Φ (1 : Int32) hi hl) ∧
  (v1 = 111 →
    ((hi (24 + v2) 2) = (1 : Int32) →
      i01 (1 : Int32) ∧
      Φ (1 : Int32) hi hl) ∧
    (¬ ((hi (24 + v2) 2) = (1 : Int32)) →
      i01 (0 : Int32) ∧
      Φ (0 : Int32) hi hl)) ∧
  (v1 = 112 →
    i01 (0 : Int32) ∧
    Φ (0 : Int32) hi hl) ∧
  (v1 = 113 →
    i01 (0 : Int32) ∧
    Φ (0 : Int32) hi hl) ∧
  (v1 = 114 →
    ((hi (24 + v2) 2) = ((hi 10 4) - (hi 10 8)) →
      i01 (1 : Int32) ∧
      Φ (1 : Int32) hi hl) ∧
    (¬ ((hi (24 + v2) 2) = ((hi 10 4) - (hi 10 8))) →
      i01 (0 : Int32) ∧
      Φ (0 : Int32) hi hl)) ∧
  (v1 = 115 →
    ((hi (24 + v2) 2) = (hi 10 4) →
      i01 (1 : Int32) ∧
      Φ (1 : Int32) hi hl) ∧
    (¬ ((hi (24 + v2) 2) = (hi 10 4)) →
      i01 (0 : Int32) ∧
      Φ (0 : Int32) hi hl)) ∧
  (v1 = 116 →
    i01 (0 : Int32) ∧
    Φ (0 : Int32) hi hl) ∧
  (v1 = 117 →
    i01 (0 : Int32) ∧
    Φ (0 : Int32) hi hl) ∧
  (v1 = 118 →
    i01 (0 : Int32) ∧
    Φ (0 : Int32) hi hl) ∧
  (v1 = 119 →
    i01 (0 : Int32) ∧
    Φ (0 : Int32) hi hl) ∧
  (v1 = 120 →
    wpD_isStateAsS v2 v3 hi hl (fun r36 hi37 hl38 =>
      (r36 = 0 →
        wbD_suits_298 hi37 hl38 Φ) ∧
      (¬ (r36 = 0) →
        ((hi37 (24 + v2) 6) = 0 →
          i01 (1 : Int32) ∧
          Φ (1 : Int32) hi37 hl38) ∧
        (¬ ((hi37 (24 + v2) 6) = 0) →
          wbD_suits_298 hi37 hl38 Φ)))) ∧
  (v1 = 121 →
    ((hi (24 + v2) 2) = ((4 : Int32) + (hi 10 4)) →
      i01 (1 : Int32) ∧
      Φ (1 : Int32) hi hl) ∧
    (¬ ((hi (24 + v2) 2) = ((4 : Int32) + (hi 10 4))) →
      i01 (0 : Int32) ∧
      Φ (0 : Int32) hi hl)) ∧
  (¬ v1 = 98 → ¬ v1 = 99 → ¬ v1 = 100 → ¬ v1 = 101 → ¬ v1 = 102 → ¬ v1 = 103 → ¬ v1 = 104 → ¬ v1 = 105 → ¬ v1 = 106 → ¬ v1 = 107 → ¬ v1 = 108 → ¬ v1 = 109 → ¬ v1 = 110 → ¬ v1 = 111 → ¬ v1 = 112 → ¬ v1 = 113 → ¬ v1 = 114 → ¬ v1 = 115 → ¬ v1 = 116 → ¬ v1 = 117 → ¬ v1 = 118 → ¬ v1 = 119 → ¬ v1 = 120 → ¬ v1 = 121 → 
    i01 (0 : Int32) ∧
    Φ (0 : Int32) hi hl)
def wpD_suits (v1 : Int32) (v2 : Nat) (v3 : Int32) (hi : HI) (hl : HL) (Φ : Int32 → HI → HL → Prop) : Prop :=
  wbD_suits_0 v1 v2 v3 hi hl Φ
def wbT_hasMinus_28 (hi : HI) (hl : HL) (Φ : Int32 → HI → HL → Prop) : Prop :=
  i01 (0 : Int32) ∧
  Φ (0 : Int32) hi hl
def wbT_hasMinus_0 (v1 : Int32) (hi : HI) (hl : HL) (Φ : Int32 → HI → HL → Prop) : Prop :=
  ((hi 1 4) ≤ v1 →
    wbT_hasMinus_28 hi hl Φ) ∧
  (¬ ((hi 1 4) ≤ v1) →
    vp_in v1 20 ∧
    vp_in (hi 3 (v1.toNatClampNeg)) 40 ∧
    ((hi 2 ((hi 3 (v1.toNatClampNeg)).toNatClampNeg)) = (45 : Int32) →
      i01 (1 : Int32) ∧
      Φ (1 : Int32) hi hl) ∧
    (¬ ((hi 2 ((hi 3 (v1.toNatClampNeg)).toNatClampNeg)) = (45 : Int32)) →
      wbT_hasMinus_28 hi hl Φ))
def wpT_hasMinus (v1 : Int32) (hi : HI) (hl : HL) (Φ : Int32 → HI → HL → Prop) : Prop :=
  wbT_hasMinus_0 v1 hi hl Φ
def wbT_number_66 : Nat → Int32 → Int32 → Int32 → HI → HL → (Int32 → HI → HL → Prop) → Prop
  | 0, _, _, _, _, _, _ => False
  | n + 1, v1, v5, v6, hi, hl, Φ =>
    vp_in v1 20 ∧
    ((hi 4 (v1.toNatClampNeg)) ≤ v6 →
      Φ v5 hi hl) ∧
    (¬ ((hi 4 (v1.toNatClampNeg)) ≤ v6) →
      vp_in v6 40 ∧
      ((hi 2 (v6.toNatClampNeg)) < (48 : Int32) →
        Φ (-1 : Int32) hi hl) ∧
      (¬ ((hi 2 (v6.toNatClampNeg)) < (48 : Int32)) →
        vp_in v6 40 ∧
        ((hi 2 (v6.toNatClampNeg)) ≤ (57 : Int32) →
          vp_in v6 40 ∧
          wbT_number_66 n v1 (((10 : Int32) * v5) + ((hi 2 (v6.toNatClampNeg)) - (48 : Int32))) (v6 + Int32.ofInt (1)) hi hl Φ) ∧
        (¬ ((hi 2 (v6.toNatClampNeg)) ≤ (57 : Int32)) →
          Φ (-1 : Int32) hi hl)))
def wbT_number_60 (v1 : Int32) (v3 : Int32) (hi : HI) (hl : HL) (Φ : Int32 → HI → HL → Prop) : Prop :=
  (∃ fu, wbT_number_66 fu v1 (0 : Int32) v3 hi hl Φ)
def wbT_number_0 (v1 : Int32) (v2 : Int32) (hi : HI) (hl : HL) (Φ : Int32 → HI → HL → Prop) : Prop :=
  (v1 < (hi 1 4) →
    vp_in v1 20 ∧
    vp_in v1 20 ∧
    (((hi 4 (v1.toNatClampNeg)) - ((hi 3 (v1.toNatClampNeg)) + v2)) < (1 : Int32) →
      Φ (-1 : Int32) hi hl) ∧
    (¬ (((hi 4 (v1.toNatClampNeg)) - ((hi 3 (v1.toNatClampNeg)) + v2)) < (1 : Int32)) →
      ((2 : Int32) < ((hi 4 (v1.toNatClampNeg)) - ((hi 3 (v1.toNatClampNeg)) + v2)) →
        Φ (-1 : Int32) hi hl) ∧
      (¬ ((2 : Int32) < ((hi 4 (v1.toNatClampNeg)) - ((hi 3 (v1.toNatClampNeg)) + v2))) →
        (((hi 4 (v1.toNatClampNeg)) - ((hi 3 (v1.toNatClampNeg)) + v2)) = (2 : Int32) →
          vp_in ((hi 3 (v1.toNatClampNeg)) + v2) 40 ∧
          ((hi 2 (((hi 3 (v1.toNatClampNeg)) + v2).toNatClampNeg)) = (48 : Int32) →
            Φ (-1 : Int32) hi hl) ∧
          (¬ ((hi 2 (((hi 3 (v1.toNatClampNeg)) + v2).toNatClampNeg)) = (48 : Int32)) →
            wbT_number_60 v1 ((hi 3 (v1.toNatClampNeg)) + v2) hi hl Φ)) ∧
        (¬ (((hi 4 (v1.toNatClampNeg)) - ((hi 3 (v1.toNatClampNeg)) + v2)) = (2 : Int32)) →
          wbT_number_60 v1 ((hi 3 (v1.toNatClampNeg)) + v2) hi hl Φ)))) ∧
  (¬ (v1 < (hi 1 4)) →
    Φ (-1 : Int32) hi hl)
def wpT_number (v1 : Int32) (v2 : Int32) (hi : HI) (hl : HL) (Φ : Int32 → HI → HL → Prop) : Prop :=
  wbT_number_0 v1 v2 hi hl Φ
def wbD_nodeFits_84 (v1 : Int32) (v3 : Int32) (v4 : Int32) (v5 : Nat) (hi : HI) (hl : HL) (Φ : Int32 → HI → HL → Prop) : Prop :=
  wpD_suits v1 v5 v3 hi hl (fun r1 hi2 hl3 =>
    (r1 = 0 →
      i01 (0 : Int32) ∧
      Φ (0 : Int32) hi2 hl3) ∧
    (¬ (r1 = 0) →
      vp_in (hi2 10 7) 3 ∧
      vp_in ((u2 hi2 11 ((hi2 10 7).toNatClampNeg) v4) 10 7) 3 ∧
      i01 (1 : Int32) ∧
      Φ (1 : Int32) (u2 (u2 (u2 (u2 hi2 11 ((hi2 10 7).toNatClampNeg) v4) 12 (((u2 hi2 11 ((hi2 10 7).toNatClampNeg) v4) 10 7).toNatClampNeg) (vp_nar .boolean v3)) 10 7 (((u2 (u2 hi2 11 ((hi2 10 7).toNatClampNeg) v4) 12 (((u2 hi2 11 ((hi2 10 7).toNatClampNeg) v4) 10 7).toNatClampNeg) (vp_nar .boolean v3)) 10 7) + (1 : Int32))) 10 8 ((u2 (u2 (u2 hi2 11 ((hi2 10 7).toNatClampNeg) v4) 12 (((u2 hi2 11 ((hi2 10 7).toNatClampNeg) v4) 10 7).toNatClampNeg) (vp_nar .boolean v3)) 10 7 (((u2 (u2 hi2 11 ((hi2 10 7).toNatClampNeg) v4) 12 (((u2 hi2 11 ((hi2 10 7).toNatClampNeg) v4) 10 7).toNatClampNeg) (vp_nar .boolean v3)) 10 7) + (1 : Int32))) (24 + v5) 2)) hl3))
def wbD_nodeFits_27 (v1 : Int32) (v3 : Int32) (q2 : Int32) (q3 : Int32) (hi : HI) (hl : HL) (Φ : Int32 → HI → HL → Prop) : Prop :=
  wpT_number q2 q3 hi hl (fun r1 hi2 hl3 =>
    wpB_nodeWith r1 hi2 hl3 (fun r4 hi5 hl6 =>
      (r4 = (-1 : Int32) →
        i01 (0 : Int32) ∧
        Φ (0 : Int32) hi5 hl6) ∧
      (¬ (r4 = (-1 : Int32)) →
        ((hi5 10 7) < (3 : Int32) →
          vp_in r4 20 ∧
          (v3 = 0 →
            wbD_nodeFits_84 v1 v3 r4 (r4.toNatClampNeg) hi5 hl6 Φ) ∧
          (¬ (v3 = 0) →
            wpC_isArray (hi5 (24 + (r4.toNatClampNeg)) 2) hi5 hl6 (fun r9 hi10 hl11 =>
              (r9 = 0 →
                wbD_nodeFits_84 v1 v3 r4 (r4.toNatClampNeg) hi10 hl11 Φ) ∧
              (¬ (r9 = 0) →
                i01 (0 : Int32) ∧
                Φ (0 : Int32) hi10 hl11)))) ∧
        (¬ ((hi5 10 7) < (3 : Int32)) →
          i01 (0 : Int32) ∧
          Φ (0 : Int32) hi5 hl6))))
def wbD_nodeFits_0 (v1 : Int32) (v2 : Int32) (hi : HI) (hl : HL) (Φ : Int32 → HI → HL → Prop) : Prop :=
  wpT_hasMinus v2 hi hl (fun r1 hi2 hl3 =>
    (r1 = 0 →
      wbD_nodeFits_27 v1 r1 v2 (0 : Int32) hi2 hl3 Φ) ∧
    (¬ (r1 = 0) →
      wbD_nodeFits_27 v1 r1 v2 (1 : Int32) hi2 hl3 Φ))
def wpD_nodeFits (v1 : Int32) (v2 : Int32) (hi : HI) (hl : HL) (Φ : Int32 → HI → HL → Prop) : Prop :=
  wbD_nodeFits_0 v1 v2 hi hl Φ
def wbD_numberFits_0 (v1 : Int32) (v2 : Int32) (hi : HI) (hl : HL) (Φ : Int32 → HI → HL → Prop) : Prop :=
  wpT_number v2 (0 : Int32) (u2 hi 10 10 (hi 10 9)) hl (fun r1 hi2 hl3 =>
    (((u2 hi2 10 9 r1) 10 9) = (-1 : Int32) →
      i01 (0 : Int32) ∧
      Φ (0 : Int32) (u2 hi2 10 9 r1) hl3) ∧
    (¬ (((u2 hi2 10 9 r1) 10 9) = (-1 : Int32)) →
      (v1 = 76 →
        (((((u2 hi2 10 9 r1) 10 10) - ((u2 hi2 10 9 r1) 10 9)) + (1 : Int32)) = ((u2 hi2 10 9 r1) 10 4) →
          i01 (1 : Int32) ∧
          Φ (1 : Int32) (u2 hi2 10 9 r1) hl3) ∧
        (¬ (((((u2 hi2 10 9 r1) 10 10) - ((u2 hi2 10 9 r1) 10 9)) + (1 : Int32)) = ((u2 hi2 10 9 r1) 10 4)) →
          i01 (0 : Int32) ∧
          Φ (0 : Int32) (u2 hi2 10 9 r1) hl3)) ∧
      (v1 = 78 →
        ((((u2 hi2 10 9 r1) 10 8) + ((u2 hi2 10 9 r1) 10 9)) = ((u2 hi2 10 9 r1) 10 4) →
          i01 (1 : Int32) ∧
          Φ (1 : Int32) (u2 hi2 10 9 r1) hl3) ∧
        (¬ ((((u2 hi2 10 9 r1) 10 8) + ((u2 hi2 10 9 r1) 10 9)) = ((u2 hi2 10 9 r1) 10 4)) →
          i01 (0 : Int32) ∧
          Φ (0 : Int32) (u2 hi2 10 9 r1) hl3)) ∧
      (v1 = 85 →
        (((u2 hi2 10 9 r1) 10 8) ≤ ((u2 hi2 10 9 r1) 10 9) →
          i01 (0 : Int32) ∧
          Φ (0 : Int32) (u2 hi2 10 9 r1) hl3) ∧
        (¬ (((u2 hi2 10 9 r1) 10 8) ≤ ((u2 hi2 10 9 r1) 10 9)) →
          i01 (1 : Int32) ∧
          Φ (1 : Int32) (u2 hi2 10 9 r1) hl3)) ∧
      (v1 = 86 →
        (((1 : Int32) <<< (((u2 hi2 10 9 r1) 10 4) &&& 31)) ≤ ((u2 hi2 10 9 r1) 10 9) →
          i01 (0 : Int32) ∧
          Φ (0 : Int32) (u2 hi2 10 9 r1) hl3) ∧
        (¬ (((1 : Int32) <<< (((u2 hi2 10 9 r1) 10 4) &&& 31)) ≤ ((u2 hi2 10 9 r1) 10 9)) →
          i01 (1 : Int32) ∧
          Φ (1 : Int32) (u2 hi2 10 9 r1) hl3)) ∧
      (¬ v1 = 76 → ¬ v1 = 78 → ¬ v1 = 85 → ¬ v1 = 86 → 
        i01 (0 : Int32) ∧
        Φ (0 : Int32) (u2 hi2 10 9 r1) hl3)))
def wpD_numberFits (v1 : Int32) (v2 : Int32) (hi : HI) (hl : HL) (Φ : Int32 → HI → HL → Prop) : Prop :=
  wbD_numberFits_0 v1 v2 hi hl Φ
def wbB_sortOf_38 (hi : HI) (hl : HL) (Φ : Int32 → HI → HL → Prop) : Prop :=
  Φ (-1 : Int32) hi hl
def wbB_sortOf_0 (v1 : Int32) (hi : HI) (hl : HL) (Φ : Int32 → HI → HL → Prop) : Prop :=
  wpB_rowWith v1 hi hl (fun r1 hi2 hl3 =>
    (r1 = (-1 : Int32) →
      wbB_sortOf_38 hi2 hl3 Φ) ∧
    (¬ (r1 = (-1 : Int32)) →
      vp_in r1 20 ∧
      vp_in (hi2 (24 + (r1.toNatClampNeg)) 1) 31 ∧
      vp_in (0 : Int32) 31 ∧
      ((hi2 (24 + (r1.toNatClampNeg)) 1) = (0 : Int32) →
        vp_in r1 20 ∧
        Φ (hi2 (24 + (r1.toNatClampNeg)) 2) hi2 hl3) ∧
      (¬ ((hi2 (24 + (r1.toNatClampNeg)) 1) = (0 : Int32)) →
        wbB_sortOf_38 hi2 hl3 Φ)))
def wpB_sortOf (v1 : Int32) (hi : HI) (hl : HL) (Φ : Int32 → HI → HL → Prop) : Prop :=
  wbB_sortOf_0 v1 hi hl Φ
def wbD_sortFits_161 (hi : HI) (hl : HL) (Φ : Int32 → HI → HL → Prop) : Prop :=
  i01 (0 : Int32) ∧
  Φ (0 : Int32) hi hl
def wbD_sortFits_0 (v1 : Int32) (v2 : Int32) (hi : HI) (hl : HL) (Φ : Int32 → HI → HL → Prop) : Prop :=
  wpT_number v2 (0 : Int32) hi hl (fun r1 hi2 hl3 =>
    wpB_sortOf r1 hi2 hl3 (fun r4 hi5 hl6 =>
      (((u2 hi5 10 4 r4) 10 4) = (-1 : Int32) →
        i01 (0 : Int32) ∧
        Φ (0 : Int32) (u2 hi5 10 4 r4) hl6) ∧
      (¬ (((u2 hi5 10 4 r4) 10 4) = (-1 : Int32)) →
        (v1 = 66 →
          wpC_isArray ((u2 hi5 10 4 r4) 10 4) (u2 hi5 10 4 r4) hl6 (fun r7 hi8 hl9 =>
            (r7 = 0 →
              i01 (1 : Int32) ∧
              Φ (1 : Int32) hi8 hl9) ∧
            (¬ (r7 = 0) →
              i01 (0 : Int32) ∧
              Φ (0 : Int32) hi8 hl9))) ∧
        (v1 = 73 →
          wpC_isArray ((u2 hi5 10 4 r4) 10 4) (u2 hi5 10 4 r4) hl6 (fun r12 hi13 hl14 =>
            (r12 = 0 →
              wpC_bitsOf (hi13 10 4) hi13 hl14 (fun r15 hi16 hl17 =>
                ((2 : Int32) < ((hi13 5 3) + r15) →
                  wbD_sortFits_161 hi16 hl17 Φ) ∧
                (¬ ((2 : Int32) < ((hi13 5 3) + r15)) →
                  i01 (1 : Int32) ∧
                  Φ (1 : Int32) hi16 hl17))) ∧
            (¬ (r12 = 0) →
              wbD_sortFits_161 hi13 hl14 Φ))) ∧
        (v1 = 79 →
          (((u2 hi5 10 4 r4) 10 4) = (1 : Int32) →
            i01 (1 : Int32) ∧
            Φ (1 : Int32) (u2 hi5 10 4 r4) hl6) ∧
          (¬ (((u2 hi5 10 4 r4) 10 4) = (1 : Int32)) →
            i01 (0 : Int32) ∧
            Φ (0 : Int32) (u2 hi5 10 4 r4) hl6)) ∧
        (v1 = 83 →
          i01 (1 : Int32) ∧
          Φ (1 : Int32) (u2 hi5 10 4 r4) hl6) ∧
        (v1 = 84 →
          wpC_bitsOf ((u2 hi5 10 4 r4) 10 4) (u2 hi5 10 4 r4) hl6 (fun r22 hi23 hl24 =>
            ((6 : Int32) < (((u2 hi5 10 4 r4) 5 4) + r22) →
              i01 (0 : Int32) ∧
              Φ (0 : Int32) hi23 hl24) ∧
            (¬ ((6 : Int32) < (((u2 hi5 10 4 r4) 5 4) + r22)) →
              i01 (1 : Int32) ∧
              Φ (1 : Int32) hi23 hl24))) ∧
        (v1 = 89 →
          wpC_isArray ((u2 hi5 10 4 r4) 10 4) (u2 hi5 10 4 r4) hl6 (fun r27 hi28 hl29 =>
            i01 r27 ∧
            Φ r27 hi28 hl29)) ∧
        (¬ v1 = 66 → ¬ v1 = 73 → ¬ v1 = 79 → ¬ v1 = 83 → ¬ v1 = 84 → ¬ v1 = 89 → 
          i01 (0 : Int32) ∧
          Φ (0 : Int32) (u2 hi5 10 4 r4) hl6))))
def wpD_sortFits (v1 : Int32) (v2 : Int32) (hi : HI) (hl : HL) (Φ : Int32 → HI → HL → Prop) : Prop :=
  wbD_sortFits_0 v1 v2 hi hl Φ
def wbD_fits_0 (v1 : Int32) (v2 : Int32) (hi : HI) (hl : HL) (Φ : Int32 → HI → HL → Prop) : Prop :=
  (v1 = 66 →
    wpD_sortFits v1 v2 hi hl (fun r1 hi2 hl3 =>
      i01 r1 ∧
      Φ r1 hi2 hl3)) ∧
  (v1 = 67 →
    wpD_nodeFits v1 v2 hi hl (fun r5 hi6 hl7 =>
      i01 r5 ∧
      Φ r5 hi6 hl7)) ∧
  (v1 = 68 →
    wpD_nodeFits v1 v2 hi hl (fun r9 hi10 hl11 =>
      i01 r9 ∧
      Φ r9 hi10 hl11)) ∧
  (v1 = 69 →
    wpD_nodeFits v1 v2 hi hl (fun r13 hi14 hl15 =>
      i01 r13 ∧
      Φ r13 hi14 hl15)) ∧
  (v1 = 70 →
    wpD_nodeFits v1 v2 hi hl (fun r17 hi18 hl19 =>
      i01 r17 ∧
      Φ r17 hi18 hl19)) ∧
  (v1 = 71 →
    wpD_nodeFits v1 v2 hi hl (fun r21 hi22 hl23 =>
      i01 r21 ∧
      Φ r21 hi22 hl23)) ∧
  (v1 = 72 →
    wpD_nodeFits v1 v2 hi hl (fun r25 hi26 hl27 =>
      i01 r25 ∧
      Φ r25 hi26 hl27)) ∧
  (v1 = 73 →
    wpD_sortFits v1 v2 hi hl (fun r29 hi30 hl31 =>
      i01 r29 ∧
      Φ r29 hi30 hl31)) ∧
  (v1 = 74 →
    wpD_nodeFits v1 v2 hi hl (fun r33 hi34 hl35 =>
      i01 r33 ∧
      Φ r33 hi34 hl35)) ∧
  (v1 = 75 →
    wpD_nodeFits v1 v2 hi hl (fun r37 hi38 hl39 =>
      i01 r37 ∧
      Φ r37 hi38 hl39)) ∧
  (v1 = 76 →
    wpD_numberFits v1 v2 hi hl (fun r41 hi42 hl43 =>
      i01 r41 ∧
      Φ r41 hi42 hl43)) ∧
  (v1 = 77 →
    wpD_nodeFits v1 v2 hi hl (fun r45 hi46 hl47 =>
      i01 r45 ∧
      Φ r45 hi46 hl47)) ∧
  (v1 = 78 →
    wpD_numberFits v1 v2 hi hl (fun r49 hi50 hl51 =>
      i01 r49 ∧
      Φ r49 hi50 hl51)) ∧
  (v1 = 79 →
    wpD_sortFits v1 v2 hi hl (fun r53 hi54 hl55 =>
      i01 r53 ∧
      Φ r53 hi54 hl55)) ∧
  (v1 = 80 →
    wpD_nodeFits v1 v2 hi hl (fun r57 hi58 hl59 =>
      i01 r57 ∧
      Φ r57 hi58 hl59)) ∧
  (v1 = 81 →
    wpD_nodeFits v1 v2 hi hl (fun r61 hi62 hl63 =>
      i01 r61 ∧
      Φ r61 hi62 hl63)) ∧
  (v1 = 82 →
    wpD_nodeFits v1 v2 hi hl (fun r65 hi66 hl67 =>
      i01 r65 ∧
      Φ r65 hi66 hl67)) ∧
  (v1 = 83 →
    wpD_sortFits v1 v2 hi hl (fun r69 hi70 hl71 =>
      i01 r69 ∧
      Φ r69 hi70 hl71)) ∧
  (v1 = 84 →
    wpD_sortFits v1 v2 hi hl (fun r73 hi74 hl75 =>
      i01 r73 ∧
      Φ r73 hi74 hl75)) ∧
  (v1 = 85 →
    wpD_numberFits v1 v2 hi hl (fun r77 hi78 hl79 =>
      i01 r77 ∧
      Φ r77 hi78 hl79)) ∧
  (v1 = 86 →
    wpD_numberFits v1 v2 hi hl (fun r81 hi82 hl83 =>
      i01 r81 ∧
      Φ r81 hi82 hl83)) ∧
  (v1 = 87 →
    wpD_nodeFits v1 v2 hi hl (fun r85 hi86 hl87 =>
      i01 r85 ∧
      Φ r85 hi86 hl87)) ∧
  (v1 = 88 →
    wpD_nodeFits v1 v2 hi hl (fun r89 hi90 hl91 =>
      i01 r89 ∧
      Φ r89 hi90 hl91)) ∧
  (v1 = 89 →
    wpD_sortFits v1 v2 hi hl (fun r93 hi94 hl95 =>
      i01 r93 ∧
      Φ r93 hi94 hl95)) ∧
  (¬ v1 = 66 → ¬ v1 = 67 → ¬ v1 = 68 → ¬ v1 = 69 → ¬ v1 = 70 → ¬ v1 = 71 → ¬ v1 = 72 → ¬ v1 = 73 → ¬ v1 = 74 → ¬ v1 = 75 → ¬ v1 = 76 → ¬ v1 = 77 → ¬ v1 = 78 → ¬ v1 = 79 → ¬ v1 = 80 → ¬ v1 = 81 → ¬ v1 = 82 → ¬ v1 = 83 → ¬ v1 = 84 → ¬ v1 = 85 → ¬ v1 = 86 → ¬ v1 = 87 → ¬ v1 = 88 → ¬ v1 = 89 → 
    wpD_nodeFits v1 v2 hi hl (fun r97 hi98 hl99 =>
      i01 r97 ∧
      Φ r97 hi98 hl99))
def wpD_fits (v1 : Int32) (v2 : Int32) (hi : HI) (hl : HL) (Φ : Int32 → HI → HL → Prop) : Prop :=
  wbD_fits_0 v1 v2 hi hl Φ
def wbT_isWord_32 : Nat → Int32 → Nat → Int32 → HI → HL → (Int32 → HI → HL → Prop) → Prop
  | 0, _, _, _, _, _, _ => False
  | n + 1, v1, v2, v3, hi, hl, Φ =>
    v2 < 64 ∧
    ((slenC v2) ≤ v3 →
      i01 (1 : Int32) ∧
      Φ (1 : Int32) hi hl) ∧
    (¬ ((slenC v2) ≤ v3) →
      vp_in v1 20 ∧
      vp_in ((hi 3 (v1.toNatClampNeg)) + v3) 40 ∧
      v2 < 64 ∧
      vp_in v3 (slenN v2) ∧
      ((hi 2 (((hi 3 (v1.toNatClampNeg)) + v3).toNatClampNeg)) = (scharC v2 (v3.toNatClampNeg)) →
        wbT_isWord_32 n v1 v2 (v3 + Int32.ofInt (1)) hi hl Φ) ∧
      (¬ ((hi 2 (((hi 3 (v1.toNatClampNeg)) + v3).toNatClampNeg)) = (scharC v2 (v3.toNatClampNeg))) →
        i01 (0 : Int32) ∧
        Φ (0 : Int32) hi hl))
def wbT_isWord_0 (v1 : Int32) (v2 : Nat) (hi : HI) (hl : HL) (Φ : Int32 → HI → HL → Prop) : Prop :=
  ((hi 1 4) ≤ v1 →
    i01 (0 : Int32) ∧
    Φ (0 : Int32) hi hl) ∧
  (¬ ((hi 1 4) ≤ v1) →
    vp_in v1 20 ∧
    vp_in v1 20 ∧
    v2 < 64 ∧
    (((hi 4 (v1.toNatClampNeg)) - (hi 3 (v1.toNatClampNeg))) = (slenC v2) →
      (∃ fu, wbT_isWord_32 fu v1 v2 (0 : Int32) hi hl Φ)) ∧
    (¬ (((hi 4 (v1.toNatClampNeg)) - (hi 3 (v1.toNatClampNeg))) = (slenC v2)) →
      i01 (0 : Int32) ∧
      Φ (0 : Int32) hi hl))
def wpT_isWord (v1 : Int32) (v2 : Nat) (hi : HI) (hl : HL) (Φ : Int32 → HI → HL → Prop) : Prop :=
  wbT_isWord_0 v1 v2 hi hl Φ
def wbD_kindOfWord_2 : Nat → Int32 → HI → HL → (Int32 → HI → HL → Prop) → Prop
  | 0, _, _, _, _ => False
  | n + 1, v1, hi, hl, Φ =>
    ((31 : Int32) ≤ v1 →
      Φ (-1 : Int32) hi hl) ∧
    (¬ ((31 : Int32) ≤ v1) →
      vp_in v1 31 ∧
      vp_in v1 31 ∧
      wpT_isWord (1 : Int32) (v1.toNatClampNeg) hi hl (fun r3 hi4 hl5 =>
        (r3 = 0 →
          wbD_kindOfWord_2 n (v1 + Int32.ofInt (1)) hi4 hl5 Φ) ∧
        (¬ (r3 = 0) →
          vp_in v1 31 ∧
          Φ v1 hi4 hl5)))
def wbD_kindOfWord_0 (hi : HI) (hl : HL) (Φ : Int32 → HI → HL → Prop) : Prop :=
  (∃ fu, wbD_kindOfWord_2 fu (0 : Int32) hi hl Φ)
def wpD_kindOfWord (hi : HI) (hl : HL) (Φ : Int32 → HI → HL → Prop) : Prop :=
  wbD_kindOfWord_0 hi hl Φ
def wbD_sortLineFault_42 (hi : HI) (hl : HL) (Φ : Int32 → HI → HL → Prop) : Prop :=
  Φ (3 : Int32) hi hl
def wbD_sortLineFault_0 (hi : HI) (hl : HL) (Φ : Int32 → HI → HL → Prop) : Prop :=
  wpT_isWord (2 : Int32) 62 hi hl (fun r1 hi2 hl3 =>
    (r1 = 0 →
      wpT_isWord (2 : Int32) 63 hi2 hl3 (fun r4 hi5 hl6 =>
        (r4 = 0 →
          Φ (2 : Int32) hi5 hl6) ∧
        (¬ (r4 = 0) →
          wpT_number (3 : Int32) (0 : Int32) hi5 hl6 (fun r7 hi8 hl9 =>
            wpB_sortOf r7 hi8 hl9 (fun r10 hi11 hl12 =>
              (r10 = (1 : Int32) →
                wpT_number (4 : Int32) (0 : Int32) hi11 hl12 (fun r13 hi14 hl15 =>
                  wpB_sortOf r13 hi14 hl15 (fun r16 hi17 hl18 =>
                    (r16 = (-1 : Int32) →
                      Φ (4 : Int32) hi17 hl18) ∧
                    (¬ (r16 = (-1 : Int32)) →
                      wpC_isArray r16 hi17 hl18 (fun r19 hi20 hl21 =>
                        (r19 = 0 →
                          wpD_faultOfLength (5 : Int32) (u2 hi20 10 4 ((4 : Int32) + r16)) hl21 (fun r22 hi23 hl24 =>
                            Φ r22 hi23 hl24)) ∧
                        (¬ (r19 = 0) →
                          Φ (4 : Int32) hi20 hl21)))))) ∧
              (¬ (r10 = (1 : Int32)) →
                Φ (3 : Int32) hi11 hl12)))))) ∧
    (¬ (r1 = 0) →
      wpT_number (3 : Int32) (0 : Int32) hi2 hl3 (fun r25 hi26 hl27 =>
        (((u2 hi26 10 4 r25) 10 4) < (1 : Int32) →
          wbD_sortLineFault_42 (u2 hi26 10 4 r25) hl27 Φ) ∧
        (¬ (((u2 hi26 10 4 r25) 10 4) < (1 : Int32)) →
          (((u2 hi26 10 4 r25) 10 4) ≤ (3 : Int32) →
            wpD_faultOfLength (4 : Int32) (u2 hi26 10 4 r25) hl27 (fun r28 hi29 hl30 =>
              Φ r28 hi29 hl30)) ∧
          (¬ (((u2 hi26 10 4 r25) 10 4) ≤ (3 : Int32)) →
            wbD_sortLineFault_42 (u2 hi26 10 4 r25) hl27 Φ)))))
def wpD_sortLineFault (hi : HI) (hl : HL) (Φ : Int32 → HI → HL → Prop) : Prop :=
  wbD_sortLineFault_0 hi hl Φ
def wbD_firstFault_89 : Nat → Int32 → HI → HL → (Int32 → HI → HL → Prop) → Prop
  | 0, _, _, _, _ => False
  | n + 1, v1, hi, hl, Φ =>
    vp_in (hi 10 3) 31 ∧
    (31 + (hi 10 3).toNatClampNeg) < 64 ∧
    ((slenC (31 + (hi 10 3).toNatClampNeg)) ≤ v1 →
      vp_in (hi 10 3) 31 ∧
      (31 + (hi 10 3).toNatClampNeg) < 64 ∧
      wpD_faultOfLength ((2 : Int32) + (slenC (31 + (hi 10 3).toNatClampNeg))) hi hl (fun r5 hi6 hl7 =>
        Φ r5 hi6 hl7)) ∧
    (¬ ((slenC (31 + (hi 10 3).toNatClampNeg)) ≤ v1) →
      vp_in (hi 10 3) 31 ∧
      (31 + (hi 10 3).toNatClampNeg) < 64 ∧
      vp_in v1 (slenN (31 + (hi 10 3).toNatClampNeg)) ∧
      wpD_fits (scharC (31 + (hi 10 3).toNatClampNeg) (v1.toNatClampNeg)) (v1 + (2 : Int32)) hi hl (fun r11 hi12 hl13 =>
        (r11 = 0 →
          Φ (v1 + (2 : Int32)) hi12 hl13) ∧
        (¬ (r11 = 0) →
          wbD_firstFault_89 n (v1 + Int32.ofInt (1)) hi12 hl13 Φ)))
def wbD_firstFault_72 (hi : HI) (hl : HL) (Φ : Int32 → HI → HL → Prop) : Prop :=
  vp_in (hi 10 3) 31 ∧
  vp_in (0 : Int32) 31 ∧
  ((hi 10 3) = (0 : Int32) →
    wpD_sortLineFault hi hl (fun r3 hi4 hl5 =>
      Φ r3 hi4 hl5)) ∧
  (¬ ((hi 10 3) = (0 : Int32)) →
    (∃ fu, wbD_firstFault_89 fu (0 : Int32) hi hl Φ))
def wbD_firstFault_0 (hi : HI) (hl : HL) (Φ : Int32 → HI → HL → Prop) : Prop :=
  wpT_number (0 : Int32) (0 : Int32) (u2 hi 10 7 (0 : Int32)) hl (fun r1 hi2 hl3 =>
    wpB_lastId (u2 hi2 10 2 r1) hl3 (fun r4 hi5 hl6 =>
      (r4 < ((u2 hi2 10 2 r1) 10 2) →
        wpD_kindOfWord hi5 hl6 (fun r7 hi8 hl9 =>
          (((u2 hi8 10 3 r7) 10 3) < 0 →
            Φ (1 : Int32) (u2 hi8 10 3 r7) hl9) ∧
          (¬ (((u2 hi8 10 3 r7) 10 3) < 0) →
            vp_in ((u2 hi8 10 3 r7) 10 3) 31 ∧
            wpK_isHard ((u2 hi8 10 3 r7) 10 3) (u2 hi8 10 3 r7) hl9 (fun r11 hi12 hl13 =>
              (r11 = 0 →
                wbD_firstFault_72 hi12 hl13 Φ) ∧
              (¬ (r11 = 0) →
                ((hi12 5 5) < (2 : Int32) →
                  wbD_firstFault_72 hi12 hl13 Φ) ∧
                (¬ ((hi12 5 5) < (2 : Int32)) →
                  Φ (1 : Int32) hi12 hl13)))))) ∧
      (¬ (r4 < ((u2 hi2 10 2 r1) 10 2)) →
        Φ (0 : Int32) hi5 hl6)))
def wpD_firstFault (hi : HI) (hl : HL) (Φ : Int32 → HI → HL → Prop) : Prop :=
  wbD_firstFault_0 hi hl Φ
def wbS_drop_0 (hi : HI) (hl : HL) (Φ : HI → HL → Prop) : Prop :=
  Φ (u2 hi 20 4 (0 : Int32)) hl
def wpS_drop (hi : HI) (hl : HL) (Φ : HI → HL → Prop) : Prop :=
  wbS_drop_0 hi hl Φ
def wbT_clear_0 (hi : HI) (hl : HL) (Φ : HI → HL → Prop) : Prop :=
  Φ (u2 (u2 hi 1 3 (0 : Int32)) 1 4 (0 : Int32)) hl
def wpT_clear (hi : HI) (hl : HL) (Φ : HI → HL → Prop) : Prop :=
  wbT_clear_0 hi hl Φ
def wbT_split_114 (k7 : (Int32 → HI → HL → Prop)) (v1 : Int32) (hi : HI) (hl : HL) (Φ : HI → HL → Prop) : Prop :=
  k7 (v1 + Int32.ofInt (1)) hi hl
def wbT_split_82 (k7 : (Int32 → HI → HL → Prop)) (v1 : Int32) (hi : HI) (hl : HL) (Φ : HI → HL → Prop) : Prop :=
  vp_in v1 40 ∧
  ((hi 2 (v1.toNatClampNeg)) = (32 : Int32) →
    wbT_split_114 k7 v1 hi hl Φ) ∧
  (¬ ((hi 2 (v1.toNatClampNeg)) = (32 : Int32)) →
    ((hi 1 4) ≤ 0 →
      wbT_split_114 k7 v1 hi hl Φ) ∧
    (¬ ((hi 1 4) ≤ 0) →
      vp_in ((hi 1 4) - (1 : Int32)) 20 ∧
      wbT_split_114 k7 v1 (u2 hi 4 (((hi 1 4) - (1 : Int32)).toNatClampNeg) (v1 + (1 : Int32))) hl Φ))
def wbT_split_48 (k7 : (Int32 → HI → HL → Prop)) (v1 : Int32) (q0 : Int32) (hi : HI) (hl : HL) (Φ : HI → HL → Prop) : Prop :=
  (q0 = 0 →
    wbT_split_82 k7 v1 hi hl Φ) ∧
  (¬ (q0 = 0) →
    ((20 : Int32) ≤ (hi 1 4) →
      wbT_split_82 k7 v1 hi hl Φ) ∧
    (¬ ((20 : Int32) ≤ (hi 1 4)) →
      vp_in (hi 1 4) 20 ∧
      wbT_split_82 k7 v1 (u2 (u2 hi 3 ((hi 1 4).toNatClampNeg) v1) 1 4 (((u2 hi 3 ((hi 1 4).toNatClampNeg) v1) 1 4) + (1 : Int32))) hl Φ))
def wbT_split_47 (k7 : (Int32 → HI → HL → Prop)) (v1 : Int32) (hi : HI) (hl : HL) (Φ : HI → HL → Prop) : Prop :=
  wbT_split_48 k7 v1 (0 : Int32) hi hl Φ
def wbT_split_43 (k7 : (Int32 → HI → HL → Prop)) (v1 : Int32) (hi : HI) (hl : HL) (Φ : HI → HL → Prop) : Prop :=
  wbT_split_48 k7 v1 (1 : Int32) hi hl Φ
def wbT_split_7 : Nat → Int32 → HI → HL → (HI → HL → Prop) → Prop
  | 0, _, _, _, _ => False
  | n + 1, v1, hi, hl, Φ =>
    ((hi 1 3) ≤ v1 →
      Φ hi hl) ∧
    (¬ ((hi 1 3) ≤ v1) →
      vp_in v1 40 ∧
      ((hi 2 (v1.toNatClampNeg)) = (32 : Int32) →
        wbT_split_47 (fun v1 hi hl => wbT_split_7 n v1 hi hl Φ) v1 hi hl Φ) ∧
      (¬ ((hi 2 (v1.toNatClampNeg)) = (32 : Int32)) →
        (v1 = 0 →
          wbT_split_43 (fun v1 hi hl => wbT_split_7 n v1 hi hl Φ) v1 hi hl Φ) ∧
        (¬ (v1 = 0) →
          vp_in (v1 - (1 : Int32)) 40 ∧
          ((hi 2 ((v1 - (1 : Int32)).toNatClampNeg)) = (32 : Int32) →
            wbT_split_43 (fun v1 hi hl => wbT_split_7 n v1 hi hl Φ) v1 hi hl Φ) ∧
          (¬ ((hi 2 ((v1 - (1 : Int32)).toNatClampNeg)) = (32 : Int32)) →
            wbT_split_47 (fun v1 hi hl => wbT_split_7 n v1 hi hl Φ) v1 hi hl Φ))))
def wbT_split_0 (hi : HI) (hl : HL) (Φ : HI → HL → Prop) : Prop :=
  (∃ fu, wbT_split_7 fu (0 : Int32) (u2 hi 1 4 (0 : Int32)) hl Φ)
def wpT_split (hi : HI) (hl : HL) (Φ : HI → HL → Prop) : Prop :=
  wbT_split_0 hi hl Φ
def wbC_line_0 (hi : HI) (hl : HL) (Φ : Int32 → HI → HL → Prop) : Prop :=
  wpT_split hi hl (fun hi2 hl3 =>
    wpD_firstFault hi2 hl3 (fun r4 hi5 hl6 =>
      wpT_clear hi5 hl6 (fun hi8 hl9 =>
        (r4 < 0 →
          ((hi8 5 2) < (20 : Int32) →
            wpB_take hi8 hl9 (fun hi11 hl12 =>
              i01 (0 : Int32) ∧
              wpS_drop (u2 hi11 0 4 (0 : Int32)) hl12 (fun hi15 hl16 =>
                Φ (hi15 10 2) hi15 hl16))) ∧
          (¬ ((hi8 5 2) < (20 : Int32)) →
            Φ (-100 : Int32) hi8 hl9)) ∧
        (¬ (r4 < 0) →
          Φ ((-1 : Int32) - r4) hi8 hl9))))
def wpC_line (hi : HI) (hl : HL) (Φ : Int32 → HI → HL → Prop) : Prop :=
  wbC_line_0 hi hl Φ
def wbC_lines_0 (hi : HI) (hl : HL) (Φ : Int32 → HI → HL → Prop) : Prop :=
  Φ (hi 5 2) hi hl
def wpC_lines (hi : HI) (hl : HL) (Φ : Int32 → HI → HL → Prop) : Prop :=
  wbC_lines_0 hi hl Φ
def wbB_startWith_105 (k7 : (Int32 → Int32 → Int32 → HI → HL → Prop)) (v2 : Int32) (v3 : Int32) (v4 : Int32) (hi : HI) (hl : HL) (Φ : Int32 → HI → HL → Prop) : Prop :=
  k7 v2 v3 (v4 + Int32.ofInt (1)) hi hl
def wbB_startWith_62 (k7 : (Int32 → Int32 → Int32 → HI → HL → Prop)) (v2 : Int32) (v3 : Int32) (v4 : Int32) (v5 : Nat) (hi : HI) (hl : HL) (Φ : Int32 → HI → HL → Prop) : Prop :=
  vp_in (hi (24 + v5) 1) 31 ∧
  vp_in (2 : Int32) 31 ∧
  ((hi (24 + v5) 1) = (2 : Int32) →
    wpC_bitsOf (hi (24 + v5) 2) hi hl (fun r3 hi4 hl5 =>
      wbB_startWith_105 k7 (v2 ||| ((v3 &&& (((1 : Int32) <<< (r3 &&& 31)) - (1 : Int32))) <<< ((hi4 (24 + v5) 4) &&& 31))) ((v3.toUInt32 >>> (r3.toUInt32 &&& Int32.toUInt32 31)).toInt32) v4 hi4 hl5 Φ)) ∧
  (¬ ((hi (24 + v5) 1) = (2 : Int32)) →
    wbB_startWith_105 k7 v2 v3 v4 hi hl Φ)
def wbB_startWith_7 : Nat → Int32 → Int32 → Int32 → HI → HL → (Int32 → HI → HL → Prop) → Prop
  | 0, _, _, _, _, _, _ => False
  | n + 1, v2, v3, v4, hi, hl, Φ =>
    ((hi 5 2) ≤ v4 →
      Φ v2 hi hl) ∧
    (¬ ((hi 5 2) ≤ v4) →
      vp_in v4 20 ∧
      vp_in (hi (24 + (v4.toNatClampNeg)) 1) 31 ∧
      vp_in (2 : Int32) 31 ∧
      ((hi (24 + (v4.toNatClampNeg)) 1) = (2 : Int32) →
        ((hi (24 + (v4.toNatClampNeg)) 5) = (-1 : Int32) →
          wbB_startWith_62 (fun v2 v3 v4 hi hl => wbB_startWith_7 n v2 v3 v4 hi hl Φ) v2 v3 v4 (v4.toNatClampNeg) hi hl Φ) ∧
        (¬ ((hi (24 + (v4.toNatClampNeg)) 5) = (-1 : Int32)) →
          wbB_startWith_105 (fun v2 v3 v4 hi hl => wbB_startWith_7 n v2 v3 v4 hi hl Φ) (v2 ||| ((hi (24 + (v4.toNatClampNeg)) 5) <<< ((hi (24 + (v4.toNatClampNeg)) 4) &&& 31))) v3 v4 hi hl Φ)) ∧
      (¬ ((hi (24 + (v4.toNatClampNeg)) 1) = (2 : Int32)) →
        wbB_startWith_62 (fun v2 v3 v4 hi hl => wbB_startWith_7 n v2 v3 v4 hi hl Φ) v2 v3 v4 (v4.toNatClampNeg) hi hl Φ))
def wbB_startWith_0 (v1 : Int32) (hi : HI) (hl : HL) (Φ : Int32 → HI → HL → Prop) : Prop :=
  (∃ fu, wbB_startWith_7 fu (0 : Int32) v1 (0 : Int32) hi hl Φ)
def wpB_startWith (v1 : Int32) (hi : HI) (hl : HL) (Φ : Int32 → HI → HL → Prop) : Prop :=
  wbB_startWith_0 v1 hi hl Φ
def wbC_begin_0 (v1 : Int32) (hi : HI) (hl : HL) (Φ : HI → HL → Prop) : Prop :=
  i01 (1 : Int32) ∧
  wpB_startWith v1 (u2 hi 0 4 (1 : Int32)) hl (fun r2 hi3 hl4 =>
    Φ (u2 (u2 hi3 0 5 r2) 0 6 (0 : Int32)) hl4)
def wpC_begin (v1 : Int32) (hi : HI) (hl : HL) (Φ : HI → HL → Prop) : Prop :=
  wbC_begin_0 v1 hi hl Φ
def wbC_feed_0 (v1 : Int32) (hi : HI) (hl : HL) (Φ : Int32 → HI → HL → Prop) : Prop :=
  ((hi 0 4) = 0 →
    i01 (0 : Int32) ∧
    Φ (0 : Int32) hi hl) ∧
  (¬ ((hi 0 4) = 0) →
    i01 (1 : Int32) ∧
    Φ (1 : Int32) (u2 hi 0 6 (v1 &&& (((1 : Int32) <<< ((hi 5 3) &&& 31)) - (1 : Int32)))) hl)
def wpC_feed (v1 : Int32) (hi : HI) (hl : HL) (Φ : Int32 → HI → HL → Prop) : Prop :=
  wbC_feed_0 v1 hi hl Φ
def wbB_after_39 (k5 : (Int32 → Int32 → Int32 → Int32 → HI → HL → Prop)) (v1 : Int32) (v2 : Int32) (v3 : Int32) (v4 : Int32) (hi : HI) (hl : HL) (Φ : Int32 → HI → HL → Prop) : Prop :=
  k5 v1 v2 v3 (v4 + Int32.ofInt (1)) hi hl
def wbB_after_5 : Nat → Int32 → Int32 → Int32 → Int32 → HI → HL → (Int32 → HI → HL → Prop) → Prop
  | 0, _, _, _, _, _, _, _ => False
  | n + 1, v1, v2, v3, v4, hi, hl, Φ =>
    ((hi 5 4) ≤ v4 →
      Φ v3 hi hl) ∧
    (¬ ((hi 5 4) ≤ v4) →
      vp_in ((v4 * (4 : Int32)) + v2) 24 ∧
      wpC_has (hl 7 (((v4 * (4 : Int32)) + v2).toNatClampNeg)) v1 hi hl (fun r2 hi3 hl4 =>
        (r2 = 0 →
          wbB_after_39 (fun v1 v2 v3 v4 hi hl => wbB_after_5 n v1 v2 v3 v4 hi hl Φ) v1 v2 v3 v4 hi3 hl4 Φ) ∧
        (¬ (r2 = 0) →
          wbB_after_39 (fun v1 v2 v3 v4 hi hl => wbB_after_5 n v1 v2 v3 v4 hi hl Φ) v1 v2 (v3 ||| ((1 : Int32) <<< (v4 &&& 31))) v4 hi3 hl4 Φ)))
def wbB_after_0 (v1 : Int32) (v2 : Int32) (hi : HI) (hl : HL) (Φ : Int32 → HI → HL → Prop) : Prop :=
  (∃ fu, wbB_after_5 fu v1 v2 (0 : Int32) (0 : Int32) hi hl Φ)
def wpB_after (v1 : Int32) (v2 : Int32) (hi : HI) (hl : HL) (Φ : Int32 → HI → HL → Prop) : Prop :=
  wbB_after_0 v1 v2 hi hl Φ
def wbC_step_0 (hi : HI) (hl : HL) (Φ : Int32 → HI → HL → Prop) : Prop :=
  ((hi 0 4) = 0 →
    i01 (0 : Int32) ∧
    Φ (0 : Int32) hi hl) ∧
  (¬ ((hi 0 4) = 0) →
    wpB_after (hi 0 5) (hi 0 6) hi hl (fun r1 hi2 hl3 =>
      i01 (1 : Int32) ∧
      Φ (1 : Int32) (u2 (u2 hi2 0 5 r1) 0 6 (0 : Int32)) hl3))
def wpC_step (hi : HI) (hl : HL) (Φ : Int32 → HI → HL → Prop) : Prop :=
  wbC_step_0 hi hl Φ
def wbL_valueAt_42 (k5 : (Nat → Int32 → Int32 → Int32 → Int32 → HI → HL → Prop)) (v0 : Nat) (v1 : Int32) (v2 : Int32) (v3 : Int32) (v4 : Int32) (hi : HI) (hl : HL) (Φ : Int32 → HI → HL → Prop) : Prop :=
  k5 v0 v1 v2 v3 (v4 + Int32.ofInt (1)) hi hl
def wbL_valueAt_5 : Nat → Nat → Int32 → Int32 → Int32 → Int32 → HI → HL → (Int32 → HI → HL → Prop) → Prop
  | 0, _, _, _, _, _, _, _, _ => False
  | n + 1, v0, v1, v2, v3, v4, hi, hl, Φ =>
    wpC_bitsOf (hi (24 + v0) 2) hi hl (fun r1 hi2 hl3 =>
      (r1 ≤ v4 →
        Φ v3 hi2 hl3) ∧
      (¬ (r1 ≤ v4) →
        vp_in ((v4 * (4 : Int32)) + v2) 24 ∧
        wpC_has (hl3 (44 + v0) (((v4 * (4 : Int32)) + v2).toNatClampNeg)) v1 hi2 hl3 (fun r5 hi6 hl7 =>
          (r5 = 0 →
            wbL_valueAt_42 (fun v0 v1 v2 v3 v4 hi hl => wbL_valueAt_5 n v0 v1 v2 v3 v4 hi hl Φ) v0 v1 v2 v3 v4 hi6 hl7 Φ) ∧
          (¬ (r5 = 0) →
            wbL_valueAt_42 (fun v0 v1 v2 v3 v4 hi hl => wbL_valueAt_5 n v0 v1 v2 v3 v4 hi hl Φ) v0 v1 v2 (v3 ||| ((1 : Int32) <<< (v4 &&& 31))) v4 hi6 hl7 Φ))))
def wbL_valueAt_0 (v0 : Nat) (v1 : Int32) (v2 : Int32) (hi : HI) (hl : HL) (Φ : Int32 → HI → HL → Prop) : Prop :=
  (∃ fu, wbL_valueAt_5 fu v0 v1 v2 (0 : Int32) (0 : Int32) hi hl Φ)
def wpL_valueAt (v0 : Nat) (v1 : Int32) (v2 : Int32) (hi : HI) (hl : HL) (Φ : Int32 → HI → HL → Prop) : Prop :=
  wbL_valueAt_0 v0 v1 v2 hi hl Φ
def wbB_valueOf_0 (v1 : Int32) (v2 : Int32) (v3 : Int32) (hi : HI) (hl : HL) (Φ : Int32 → HI → HL → Prop) : Prop :=
  wpB_nodeWith v1 hi hl (fun r1 hi2 hl3 =>
    (r1 = (-1 : Int32) →
      Φ (-1 : Int32) hi2 hl3) ∧
    (¬ (r1 = (-1 : Int32)) →
      vp_in r1 20 ∧
      wpL_valueAt (r1.toNatClampNeg) v2 v3 hi2 hl3 (fun r5 hi6 hl7 =>
        Φ r5 hi6 hl7)))
def wpB_valueOf (v1 : Int32) (v2 : Int32) (v3 : Int32) (hi : HI) (hl : HL) (Φ : Int32 → HI → HL → Prop) : Prop :=
  wbB_valueOf_0 v1 v2 v3 hi hl Φ
def wbC_value_0 (v1 : Int32) (hi : HI) (hl : HL) (Φ : Int32 → HI → HL → Prop) : Prop :=
  ((hi 0 4) = 0 →
    Φ (-1 : Int32) hi hl) ∧
  (¬ ((hi 0 4) = 0) →
    wpB_valueOf v1 (hi 0 5) (hi 0 6) hi hl (fun r1 hi2 hl3 =>
      Φ r1 hi2 hl3))
def wpC_value (v1 : Int32) (hi : HI) (hl : HL) (Φ : Int32 → HI → HL → Prop) : Prop :=
  wbC_value_0 v1 hi hl Φ
def wbB_leastOf_148 (k8 : (Int64 → Int32 → Int32 → HI → HL → Prop)) (v3 : Int64) (v5 : Int32) (v6 : Int32) (hi : HI) (hl : HL) (Φ : Int32 → HI → HL → Prop) : Prop :=
  k8 v3 v5 (v6 + Int32.ofInt (1)) hi hl
def wbB_leastOf_139 (k8 : (Int64 → Int32 → Int32 → HI → HL → Prop)) (k50 : (Int64 → Int32 → Int32 → Int32 → HI → HL → Prop)) (v3 : Int64) (v6 : Int32) (v7 : Int32) (q0 : Int32) (q1 : Int32) (hi : HI) (hl : HL) (Φ : Int32 → HI → HL → Prop) : Prop :=
  k50 v3 (q0 ||| q1) v6 (v7 + Int32.ofInt (-1)) hi hl
def wbB_leastOf_111 (k8 : (Int64 → Int32 → Int32 → HI → HL → Prop)) (k50 : (Int64 → Int32 → Int32 → Int32 → HI → HL → Prop)) (v5 : Int32) (v6 : Int32) (v7 : Int32) (v10 : Int32) (q0 : Int64) (q1 : Int64) (hi : HI) (hl : HL) (Φ : Int32 → HI → HL → Prop) : Prop :=
  (v10 = 0 →
    vp_in v6 20 ∧
    wbB_leastOf_139 k8 k50 (q0 &&& q1) v6 v7 v5 ((1 : Int32) <<< (((hi (24 + (v6.toNatClampNeg)) 4) + v7) &&& 31)) hi hl Φ) ∧
  (¬ (v10 = 0) →
    wbB_leastOf_139 k8 k50 (q0 &&& q1) v6 v7 v5 (0 : Int32) hi hl Φ)
def wbB_leastOf_92 (k8 : (Int64 → Int32 → Int32 → HI → HL → Prop)) (k50 : (Int64 → Int32 → Int32 → Int32 → HI → HL → Prop)) (v3 : Int64) (v5 : Int32) (v6 : Int32) (v7 : Int32) (v8 : Int64) (q0 : Int32) (hi : HI) (hl : HL) (Φ : Int32 → HI → HL → Prop) : Prop :=
  (q0 = 0 →
    wbB_leastOf_111 k8 k50 v5 v6 v7 q0 v3 v8 hi hl Φ) ∧
  (¬ (q0 = 0) →
    wbB_leastOf_111 k8 k50 v5 v6 v7 q0 v3 (v8 ^^^ (-1 : Int64)) hi hl Φ)
def wbB_leastOf_50 (k8 : (Int64 → Int32 → Int32 → HI → HL → Prop)) : Nat → Int64 → Int32 → Int32 → Int32 → HI → HL → (Int32 → HI → HL → Prop) → Prop
  | 0, _, _, _, _, _, _, _ => False
  | n + 1, v3, v5, v6, v7, hi, hl, Φ =>
    (v7 < 0 →
      wbB_leastOf_148 k8 v3 v5 v6 hi hl Φ) ∧
    (¬ (v7 < 0) →
      vp_in v6 20 ∧
      vp_in ((hi (24 + (v6.toNatClampNeg)) 4) + v7) 6 ∧
      ((lg_cmp (v3 &&& ((lanesC (((hi (24 + (v6.toNatClampNeg)) 4) + v7).toNatClampNeg)) ^^^ (-1 : Int64))) (0 : Int64)) = 0 →
        wbB_leastOf_92 k8 (fun v3 v5 v6 v7 hi hl => wbB_leastOf_50 k8 n v3 v5 v6 v7 hi hl Φ) v3 v5 v6 v7 (lanesC (((hi (24 + (v6.toNatClampNeg)) 4) + v7).toNatClampNeg)) (0 : Int32) hi hl Φ) ∧
      (¬ ((lg_cmp (v3 &&& ((lanesC (((hi (24 + (v6.toNatClampNeg)) 4) + v7).toNatClampNeg)) ^^^ (-1 : Int64))) (0 : Int64)) = 0) →
        wbB_leastOf_92 k8 (fun v3 v5 v6 v7 hi hl => wbB_leastOf_50 k8 n v3 v5 v6 v7 hi hl Φ) v3 v5 v6 v7 (lanesC (((hi (24 + (v6.toNatClampNeg)) 4) + v7).toNatClampNeg)) (1 : Int32) hi hl Φ))
def wbB_leastOf_8 : Nat → Int64 → Int32 → Int32 → HI → HL → (Int32 → HI → HL → Prop) → Prop
  | 0, _, _, _, _, _, _ => False
  | n + 1, v3, v5, v6, hi, hl, Φ =>
    ((hi 5 2) ≤ v6 →
      Φ v5 hi hl) ∧
    (¬ ((hi 5 2) ≤ v6) →
      vp_in v6 20 ∧
      vp_in (hi (24 + (v6.toNatClampNeg)) 1) 31 ∧
      vp_in (2 : Int32) 31 ∧
      ((hi (24 + (v6.toNatClampNeg)) 1) = (2 : Int32) →
        vp_in v6 20 ∧
        wpC_bitsOf (hi (24 + (v6.toNatClampNeg)) 2) hi hl (fun r5 hi6 hl7 =>
          (∃ fu, wbB_leastOf_50 (fun v3 v5 v6 hi hl => wbB_leastOf_8 n v3 v5 v6 hi hl Φ) fu v3 v5 v6 (r5 - (1 : Int32)) hi6 hl7 Φ))) ∧
      (¬ ((hi (24 + (v6.toNatClampNeg)) 1) = (2 : Int32)) →
        wbB_leastOf_148 (fun v3 v5 v6 hi hl => wbB_leastOf_8 n v3 v5 v6 hi hl Φ) v3 v5 v6 hi hl Φ))
def wbB_leastOf_0 (v1 : Int64) (hi : HI) (hl : HL) (Φ : Int32 → HI → HL → Prop) : Prop :=
  (∃ fu, wbB_leastOf_8 fu v1 (0 : Int32) (0 : Int32) hi hl Φ)
def wpB_leastOf (v1 : Int64) (hi : HI) (hl : HL) (Φ : Int32 → HI → HL → Prop) : Prop :=
  wbB_leastOf_0 v1 hi hl Φ
def wbB_starts_106 (k6 : (Int64 → Int32 → HI → HL → Prop)) (v1 : Int64) (v3 : Int32) (hi : HI) (hl : HL) (Φ : Int64 → HI → HL → Prop) : Prop :=
  k6 v1 (v3 + Int32.ofInt (1)) hi hl
def wbB_starts_98 (k6 : (Int64 → Int32 → HI → HL → Prop)) (k45 : (Int64 → Int32 → Nat → Int32 → HI → HL → Prop)) (v3 : Int32) (v4 : Nat) (v5 : Int32) (q0 : Int64) (q1 : Int64) (hi : HI) (hl : HL) (Φ : Int64 → HI → HL → Prop) : Prop :=
  k45 (q0 &&& q1) v3 v4 (v5 + Int32.ofInt (1)) hi hl
def wbB_starts_45 (k6 : (Int64 → Int32 → HI → HL → Prop)) : Nat → Int64 → Int32 → Nat → Int32 → HI → HL → (Int64 → HI → HL → Prop) → Prop
  | 0, _, _, _, _, _, _, _ => False
  | n + 1, v1, v3, v4, v5, hi, hl, Φ =>
    wpC_bitsOf (hi (24 + v4) 2) hi hl (fun r1 hi2 hl3 =>
      (r1 ≤ v5 →
        wbB_starts_106 k6 v1 v3 hi2 hl3 Φ) ∧
      (¬ (r1 ≤ v5) →
        vp_in ((hi2 (24 + v4) 4) + v5) 6 ∧
        wpC_has ((hi2 (24 + v4) 5).toInt64) v5 hi2 hl3 (fun r5 hi6 hl7 =>
          (r5 = 0 →
            wbB_starts_98 k6 (fun v1 v3 v4 v5 hi hl => wbB_starts_45 k6 n v1 v3 v4 v5 hi hl Φ) v3 v4 v5 v1 ((lanesC (((hi2 (24 + v4) 4) + v5).toNatClampNeg)) ^^^ (-1 : Int64)) hi6 hl7 Φ) ∧
          (¬ (r5 = 0) →
            wbB_starts_98 k6 (fun v1 v3 v4 v5 hi hl => wbB_starts_45 k6 n v1 v3 v4 v5 hi hl Φ) v3 v4 v5 v1 (lanesC (((hi2 (24 + v4) 4) + v5).toNatClampNeg)) hi6 hl7 Φ))))
def wbB_starts_6 : Nat → Int64 → Int32 → HI → HL → (Int64 → HI → HL → Prop) → Prop
  | 0, _, _, _, _, _ => False
  | n + 1, v1, v3, hi, hl, Φ =>
    ((hi 5 2) ≤ v3 →
      Φ v1 hi hl) ∧
    (¬ ((hi 5 2) ≤ v3) →
      vp_in v3 20 ∧
      vp_in (hi (24 + (v3.toNatClampNeg)) 1) 31 ∧
      vp_in (2 : Int32) 31 ∧
      ((hi (24 + (v3.toNatClampNeg)) 1) = (2 : Int32) →
        ((hi (24 + (v3.toNatClampNeg)) 5) = (-1 : Int32) →
          wbB_starts_106 (fun v1 v3 hi hl => wbB_starts_6 n v1 v3 hi hl Φ) v1 v3 hi hl Φ) ∧
        (¬ ((hi (24 + (v3.toNatClampNeg)) 5) = (-1 : Int32)) →
          (∃ fu, wbB_starts_45 (fun v1 v3 hi hl => wbB_starts_6 n v1 v3 hi hl Φ) fu v1 v3 (v3.toNatClampNeg) (0 : Int32) hi hl Φ))) ∧
      (¬ ((hi (24 + (v3.toNatClampNeg)) 1) = (2 : Int32)) →
        wbB_starts_106 (fun v1 v3 hi hl => wbB_starts_6 n v1 v3 hi hl Φ) v1 v3 hi hl Φ))
def wbB_starts_0 (hi : HI) (hl : HL) (Φ : Int64 → HI → HL → Prop) : Prop :=
  (∃ fu, wbB_starts_6 fu (-1 : Int64) (0 : Int32) hi hl Φ)
def wpB_starts (hi : HI) (hl : HL) (Φ : Int64 → HI → HL → Prop) : Prop :=
  wbB_starts_0 hi hl Φ
def wbS_leads_70 (hi : HI) (hl : HL) (Φ : Int32 → HI → HL → Prop) : Prop :=
  i01 (1 : Int32) ∧
  Φ (1 : Int32) hi hl
def wbS_leads_38 (v1 : Int32) (v2 : Int32) (v3 : Int32) (q0 : Int32) (q1 : Int32) (hi : HI) (hl : HL) (Φ : Int32 → HI → HL → Prop) : Prop :=
  (q0 = q1 →
    (v3 = 0 →
      wbS_leads_70 hi hl Φ) ∧
    (¬ (v3 = 0) →
      vp_in (v3 - (1 : Int32)) 4 ∧
      wpB_after v1 v2 hi hl (fun r2 hi3 hl4 =>
        wpC_has (hl 21 ((v3 - (1 : Int32)).toNatClampNeg)) r2 hi3 hl4 (fun r5 hi6 hl7 =>
          (r5 = 0 →
            i01 (0 : Int32) ∧
            Φ (0 : Int32) hi6 hl7) ∧
          (¬ (r5 = 0) →
            wbS_leads_70 hi6 hl7 Φ))))) ∧
  (¬ (q0 = q1) →
    i01 (0 : Int32) ∧
    Φ (0 : Int32) hi hl)
def wbS_leads_0 (v1 : Int32) (v2 : Int32) (v3 : Int32) (hi : HI) (hl : HL) (Φ : Int32 → HI → HL → Prop) : Prop :=
  vp_in v2 4 ∧
  wpC_has (hl 9 (v2.toNatClampNeg)) v1 hi hl (fun r2 hi3 hl4 =>
    (r2 = 0 →
      i01 (0 : Int32) ∧
      Φ (0 : Int32) hi3 hl4) ∧
    (¬ (r2 = 0) →
      vp_in v2 4 ∧
      wpC_has (hl4 8 (v2.toNatClampNeg)) v1 hi3 hl4 (fun r7 hi8 hl9 =>
        (v3 = 0 →
          wbS_leads_38 v1 v2 v3 r7 (1 : Int32) hi8 hl9 Φ) ∧
        (¬ (v3 = 0) →
          wbS_leads_38 v1 v2 v3 r7 (0 : Int32) hi8 hl9 Φ))))
def wpS_leads (v1 : Int32) (v2 : Int32) (v3 : Int32) (hi : HI) (hl : HL) (Φ : Int32 → HI → HL → Prop) : Prop :=
  wbS_leads_0 v1 v2 v3 hi hl Φ
def wbS_gather_59 (k9 : (Int32 → Int32 → HI → HL → Prop)) (k24 : (Int32 → Int32 → Int32 → HI → HL → Prop)) (v1 : Int32) (v2 : Int32) (v3 : Int32) (hi : HI) (hl : HL) (Φ : HI → HL → Prop) : Prop :=
  k24 v1 v2 (v3 + Int32.ofInt (1)) hi hl
def wbS_gather_24 (k9 : (Int32 → Int32 → HI → HL → Prop)) : Nat → Int32 → Int32 → Int32 → HI → HL → (HI → HL → Prop) → Prop
  | 0, _, _, _, _, _, _ => False
  | n + 1, v1, v2, v3, hi, hl, Φ =>
    (((1 : Int32) <<< ((hi 5 3) &&& 31)) ≤ v3 →
      k9 v1 (v2 + Int32.ofInt (1)) hi hl) ∧
    (¬ (((1 : Int32) <<< ((hi 5 3) &&& 31)) ≤ v3) →
      wpS_leads v2 v3 v1 hi hl (fun r1 hi2 hl3 =>
        (r1 = 0 →
          wbS_gather_59 k9 (fun v1 v2 v3 hi hl => wbS_gather_24 k9 n v1 v2 v3 hi hl Φ) v1 v2 v3 hi2 hl3 Φ) ∧
        (¬ (r1 = 0) →
          vp_in v1 4 ∧
          vp_in v1 4 ∧
          wbS_gather_59 k9 (fun v1 v2 v3 hi hl => wbS_gather_24 k9 n v1 v2 v3 hi hl Φ) v1 v2 v3 hi2 (u2 hl3 21 (v1.toNatClampNeg) ((hl3 21 (v1.toNatClampNeg)) ||| ((1 : Int64) <<< (v2.toInt64 &&& 63)))) Φ)))
def wbS_gather_9 : Nat → Int32 → Int32 → HI → HL → (HI → HL → Prop) → Prop
  | 0, _, _, _, _, _ => False
  | n + 1, v1, v2, hi, hl, Φ =>
    (((1 : Int32) <<< ((hi 5 4) &&& 31)) ≤ v2 →
      Φ hi hl) ∧
    (¬ (((1 : Int32) <<< ((hi 5 4) &&& 31)) ≤ v2) →
      (∃ fu, wbS_gather_24 (fun v1 v2 hi hl => wbS_gather_9 n v1 v2 hi hl Φ) fu v1 v2 (0 : Int32) hi hl Φ))
def wbS_gather_0 (v1 : Int32) (hi : HI) (hl : HL) (Φ : HI → HL → Prop) : Prop :=
  vp_in v1 4 ∧
  (∃ fu, wbS_gather_9 fu v1 (0 : Int32) hi (u2 hl 21 (v1.toNatClampNeg) (0 : Int64)) Φ)
def wpS_gather (v1 : Int32) (hi : HI) (hl : HL) (Φ : HI → HL → Prop) : Prop :=
  wbS_gather_0 v1 hi hl Φ
def wbB_inputAt_79 (k10 : (Int32 → Int32 → Int32 → Int32 → HI → HL → Prop)) (v1 : Int32) (v2 : Int32) (v3 : Int32) (v4 : Int32) (hi : HI) (hl : HL) (Φ : Int32 → HI → HL → Prop) : Prop :=
  k10 v1 v2 v3 (v4 + Int32.ofInt (1)) hi hl
def wbB_inputAt_10 : Nat → Int32 → Int32 → Int32 → Int32 → HI → HL → (Int32 → HI → HL → Prop) → Prop
  | 0, _, _, _, _, _, _, _ => False
  | n + 1, v1, v2, v3, v4, hi, hl, Φ =>
    ((hi 5 2) ≤ v4 →
      Φ v2 hi hl) ∧
    (¬ ((hi 5 2) ≤ v4) →
      vp_in v4 20 ∧
      vp_in (hi (24 + (v4.toNatClampNeg)) 1) 31 ∧
      vp_in (1 : Int32) 31 ∧
      ((hi (24 + (v4.toNatClampNeg)) 1) = (1 : Int32) →
        vp_in v4 20 ∧
        wpC_bitsOf (hi (24 + (v4.toNatClampNeg)) 2) hi hl (fun r5 hi6 hl7 =>
          vp_in v4 20 ∧
          wbB_inputAt_79 (fun v1 v2 v3 v4 hi hl => wbB_inputAt_10 n v1 v2 v3 v4 hi hl Φ) v1 (v2 ||| ((((v1.toUInt32 >>> ((v3 - r5).toUInt32 &&& Int32.toUInt32 31)).toInt32) &&& (((1 : Int32) <<< (r5 &&& 31)) - (1 : Int32))) <<< ((hi6 (24 + (v4.toNatClampNeg)) 4) &&& 31))) (v3 - r5) v4 hi6 hl7 Φ)) ∧
      (¬ ((hi (24 + (v4.toNatClampNeg)) 1) = (1 : Int32)) →
        wbB_inputAt_79 (fun v1 v2 v3 v4 hi hl => wbB_inputAt_10 n v1 v2 v3 v4 hi hl Φ) v1 v2 v3 v4 hi hl Φ))
def wbB_inputAt_0 (v1 : Int32) (hi : HI) (hl : HL) (Φ : Int32 → HI → HL → Prop) : Prop :=
  (∃ fu, wbB_inputAt_10 fu v1 (0 : Int32) (hi 5 3) (0 : Int32) hi hl Φ)
def wpB_inputAt (v1 : Int32) (hi : HI) (hl : HL) (Φ : Int32 → HI → HL → Prop) : Prop :=
  wbB_inputAt_0 v1 hi hl Φ
def wbS_leastInput_2 : Nat → Int32 → Int32 → Int32 → HI → HL → (Int32 → HI → HL → Prop) → Prop
  | 0, _, _, _, _, _, _ => False
  | n + 1, v1, v2, v3, hi, hl, Φ =>
    (((1 : Int32) <<< ((hi 5 3) &&& 31)) ≤ v3 →
      Φ (0 : Int32) hi hl) ∧
    (¬ (((1 : Int32) <<< ((hi 5 3) &&& 31)) ≤ v3) →
      wpB_inputAt v3 hi hl (fun r1 hi2 hl3 =>
        wpS_leads v1 r1 v2 hi2 hl3 (fun r4 hi5 hl6 =>
          (r4 = 0 →
            wbS_leastInput_2 n v1 v2 (v3 + Int32.ofInt (1)) hi5 hl6 Φ) ∧
          (¬ (r4 = 0) →
            Φ r1 hi5 hl6))))
def wbS_leastInput_0 (v1 : Int32) (v2 : Int32) (hi : HI) (hl : HL) (Φ : Int32 → HI → HL → Prop) : Prop :=
  (∃ fu, wbS_leastInput_2 fu v1 v2 (0 : Int32) hi hl Φ)
def wpS_leastInput (v1 : Int32) (v2 : Int32) (hi : HI) (hl : HL) (Φ : Int32 → HI → HL → Prop) : Prop :=
  wbS_leastInput_0 v1 v2 hi hl Φ
def wbS_keep_5 : Nat → Int32 → Int32 → Int32 → HI → HL → (HI → HL → Prop) → Prop
  | 0, _, _, _, _, _, _ => False
  | n + 1, v2, v3, v4, hi, hl, Φ =>
    (v2 < v4 →
      Φ (u2 hi 20 4 (v2 + (1 : Int32))) hl) ∧
    (¬ (v2 < v4) →
      vp_in v4 4 ∧
      wpS_leastInput v3 (v2 - v4) (u2 hi 22 (v4.toNatClampNeg) v3) hl (fun r2 hi3 hl4 =>
        vp_in v4 4 ∧
        vp_in v4 4 ∧
        wpB_after v3 ((u2 hi3 23 (v4.toNatClampNeg) r2) 23 (v4.toNatClampNeg)) (u2 hi3 23 (v4.toNatClampNeg) r2) hl4 (fun r7 hi8 hl9 =>
          wbS_keep_5 n v2 r7 (v4 + Int32.ofInt (1)) hi8 hl9 Φ)))
def wbS_keep_0 (v1 : Int32) (v2 : Int32) (hi : HI) (hl : HL) (Φ : HI → HL → Prop) : Prop :=
  (∃ fu, wbS_keep_5 fu v2 v1 (0 : Int32) hi hl Φ)
def wpS_keep (v1 : Int32) (v2 : Int32) (hi : HI) (hl : HL) (Φ : HI → HL → Prop) : Prop :=
  wbS_keep_0 v1 v2 hi hl Φ
def wbS_leastBad_15 : Nat → Int32 → Int64 → Int32 → HI → HL → (Int32 → HI → HL → Prop) → Prop
  | 0, _, _, _, _, _, _ => False
  | n + 1, v1, v2, v4, hi, hl, Φ =>
    (v1 < v4 →
      Φ (-1 : Int32) hi hl) ∧
    (¬ (v1 < v4) →
      wpS_gather v4 hi hl (fun hi2 hl3 =>
        vp_in v4 4 ∧
        ((lg_cmp (v2 &&& (hl3 21 (v4.toNatClampNeg))) (0 : Int64)) = 0 →
          wbS_leastBad_15 n v1 v2 (v4 + Int32.ofInt (1)) hi2 hl3 Φ) ∧
        (¬ ((lg_cmp (v2 &&& (hl3 21 (v4.toNatClampNeg))) (0 : Int64)) = 0) →
          vp_in v4 4 ∧
          wpB_leastOf (v2 &&& (hl3 21 (v4.toNatClampNeg))) hi2 hl3 (fun r6 hi7 hl8 =>
            wpS_keep r6 v4 hi7 hl8 (fun hi10 hl11 =>
              Φ v4 hi10 hl11)))))
def wbS_leastBad_0 (v1 : Int32) (hi : HI) (hl : HL) (Φ : Int32 → HI → HL → Prop) : Prop :=
  wpS_drop hi hl (fun hi2 hl3 =>
    wpB_starts hi2 hl3 (fun r4 hi5 hl6 =>
      (∃ fu, wbS_leastBad_15 fu v1 r4 (0 : Int32) hi5 hl6 Φ)))
def wpS_leastBad (v1 : Int32) (hi : HI) (hl : HL) (Φ : Int32 → HI → HL → Prop) : Prop :=
  wbS_leastBad_0 v1 hi hl Φ
def wbC_find_0 (v1 : Int32) (hi : HI) (hl : HL) (Φ : Int32 → HI → HL → Prop) : Prop :=
  (v1 < 0 →
    Φ (-2 : Int32) hi hl) ∧
  (¬ (v1 < 0) →
    (v1 ≤ (3 : Int32) →
      wpS_leastBad v1 hi hl (fun r1 hi2 hl3 =>
        Φ r1 hi2 hl3)) ∧
    (¬ (v1 ≤ (3 : Int32)) →
      Φ (-2 : Int32) hi hl))
def wpC_find (v1 : Int32) (hi : HI) (hl : HL) (Φ : Int32 → HI → HL → Prop) : Prop :=
  wbC_find_0 v1 hi hl Φ
def wbC_shown_0 (v1 : Int32) (v2 : Int32) (hi : HI) (hl : HL) (Φ : Int32 → HI → HL → Prop) : Prop :=
  (v1 < 0 →
    Φ (-1 : Int32) hi hl) ∧
  (¬ (v1 < 0) →
    (v1 < (hi 20 4) →
      vp_in v1 4 ∧
      vp_in v1 4 ∧
      wpB_valueOf v2 (hi 22 (v1.toNatClampNeg)) (hi 23 (v1.toNatClampNeg)) hi hl (fun r3 hi4 hl5 =>
        Φ r3 hi4 hl5)) ∧
    (¬ (v1 < (hi 20 4)) →
      Φ (-1 : Int32) hi hl))
def wpC_shown (v1 : Int32) (v2 : Int32) (hi : HI) (hl : HL) (Φ : Int32 → HI → HL → Prop) : Prop :=
  wbC_shown_0 v1 v2 hi hl Φ
def wbS_stretches_82 (rec : Int32 → Int64 → Int32 → HI → HL → (Int32 → HI → HL → Prop) → Prop) (k17 : (Int32 → Int32 → Int64 → Int32 → HI → HL → Prop)) (v1 : Int32) (v4 : Int32) (v5 : Int64) (v7 : Int32) (hi : HI) (hl : HL) (Φ : Int32 → HI → HL → Prop) : Prop :=
  k17 v1 v4 v5 (v7 + Int32.ofInt (1)) hi hl
def wbS_stretches_17 (rec : Int32 → Int64 → Int32 → HI → HL → (Int32 → HI → HL → Prop) → Prop) : Nat → Int32 → Int32 → Int64 → Int32 → HI → HL → (Int32 → HI → HL → Prop) → Prop
  | 0, _, _, _, _, _, _, _ => False
  | n + 1, v1, v4, v5, v7, hi, hl, Φ =>
    (((1 : Int32) <<< ((hi 5 3) &&& 31)) ≤ v7 →
      i01 (0 : Int32) ∧
      Φ (0 : Int32) hi hl) ∧
    (¬ (((1 : Int32) <<< ((hi 5 3) &&& 31)) ≤ v7) →
      wpS_leads v1 v7 v4 hi hl (fun r2 hi3 hl4 =>
        (r2 = 0 →
          wbS_stretches_82 rec (fun v1 v4 v5 v7 hi hl => wbS_stretches_17 rec n v1 v4 v5 v7 hi hl Φ) v1 v4 v5 v7 hi3 hl4 Φ) ∧
        (¬ (r2 = 0) →
          wpB_after v1 v7 hi3 hl4 (fun r5 hi6 hl7 =>
            wpC_has v5 r5 hi6 hl7 (fun r8 hi9 hl10 =>
              (r8 = 0 →
                rec r5 v5 (v4 - (1 : Int32)) hi9 hl10 (fun r11 hi12 hl13 =>
                  (r11 = 0 →
                    wbS_stretches_82 rec (fun v1 v4 v5 v7 hi hl => wbS_stretches_17 rec n v1 v4 v5 v7 hi hl Φ) v1 v4 v5 v7 hi12 hl13 Φ) ∧
                  (¬ (r11 = 0) →
                    i01 (1 : Int32) ∧
                    Φ (1 : Int32) hi12 hl13))) ∧
              (¬ (r8 = 0) →
                wbS_stretches_82 rec (fun v1 v4 v5 v7 hi hl => wbS_stretches_17 rec n v1 v4 v5 v7 hi hl Φ) v1 v4 v5 v7 hi9 hl10 Φ))))))
def wbS_stretches_0 (rec : Int32 → Int64 → Int32 → HI → HL → (Int32 → HI → HL → Prop) → Prop) (v1 : Int32) (v2 : Int64) (v4 : Int32) (hi : HI) (hl : HL) (Φ : Int32 → HI → HL → Prop) : Prop :=
  (0 < v4 →
    (∃ fu, wbS_stretches_17 rec fu v1 v4 (v2 ||| ((1 : Int64) <<< (v1.toInt64 &&& 63))) (0 : Int32) hi hl Φ)) ∧
  (¬ (0 < v4) →
    i01 (1 : Int32) ∧
    Φ (1 : Int32) hi hl)
def wpS_stretches : Nat → Int32 → Int64 → Int32 → HI → HL → (Int32 → HI → HL → Prop) → Prop
  | 0, _, _, _, _, _, _ => False
  | d + 1, v1, v2, v4, hi, hl, Φ => wbS_stretches_0 (wpS_stretches d) v1 v2 v4 hi hl Φ
def wbS_hasStretch_45 (k7 : (Int32 → Int32 → HI → HL → Prop)) (v1 : Int32) (v2 : Int32) (hi : HI) (hl : HL) (Φ : Int32 → HI → HL → Prop) : Prop :=
  k7 v1 (v2 + Int32.ofInt (1)) hi hl
def wbS_hasStretch_7 : Nat → Int32 → Int32 → HI → HL → (Int32 → HI → HL → Prop) → Prop
  | 0, _, _, _, _, _ => False
  | n + 1, v1, v2, hi, hl, Φ =>
    (((1 : Int32) <<< ((hi 5 4) &&& 31)) ≤ v2 →
      i01 (0 : Int32) ∧
      Φ (0 : Int32) hi hl) ∧
    (¬ (((1 : Int32) <<< ((hi 5 4) &&& 31)) ≤ v2) →
      vp_in v1 4 ∧
      wpC_has (hl 21 (v1.toNatClampNeg)) v2 hi hl (fun r3 hi4 hl5 =>
        (r3 = 0 →
          wbS_hasStretch_45 (fun v1 v2 hi hl => wbS_hasStretch_7 n v1 v2 hi hl Φ) v1 v2 hi4 hl5 Φ) ∧
        (¬ (r3 = 0) →
          wpS_stretches 5 v2 (0 : Int64) v1 hi4 hl5 (fun r6 hi7 hl8 =>
            (r6 = 0 →
              wbS_hasStretch_45 (fun v1 v2 hi hl => wbS_hasStretch_7 n v1 v2 hi hl Φ) v1 v2 hi7 hl8 Φ) ∧
            (¬ (r6 = 0) →
              i01 (1 : Int32) ∧
              Φ (1 : Int32) hi7 hl8)))))
def wbS_hasStretch_0 (v1 : Int32) (hi : HI) (hl : HL) (Φ : Int32 → HI → HL → Prop) : Prop :=
  wpS_gather v1 hi hl (fun hi2 hl3 =>
    (∃ fu, wbS_hasStretch_7 fu v1 (0 : Int32) hi2 hl3 Φ))
def wpS_hasStretch (v1 : Int32) (hi : HI) (hl : HL) (Φ : Int32 → HI → HL → Prop) : Prop :=
  wbS_hasStretch_0 v1 hi hl Φ
def wbC_prove_0 (v1 : Int32) (hi : HI) (hl : HL) (Φ : Int32 → HI → HL → Prop) : Prop :=
  (v1 < 0 →
    Φ (-2 : Int32) hi hl) ∧
  (¬ (v1 < 0) →
    (v1 ≤ (2 : Int32) →
      wpS_leastBad v1 hi hl (fun r1 hi2 hl3 =>
        (r1 = (-1 : Int32) →
          wpS_hasStretch (v1 + (1 : Int32)) hi2 hl3 (fun r4 hi5 hl6 =>
            (r4 = 0 →
              Φ (1 : Int32) hi5 hl6) ∧
            (¬ (r4 = 0) →
              Φ (0 : Int32) hi5 hl6))) ∧
        (¬ (r1 = (-1 : Int32)) →
          Φ (2 : Int32) hi2 hl3))) ∧
    (¬ (v1 ≤ (2 : Int32)) →
      Φ (-2 : Int32) hi hl))
def wpC_prove (v1 : Int32) (hi : HI) (hl : HL) (Φ : Int32 → HI → HL → Prop) : Prop :=
  wbC_prove_0 v1 hi hl Φ
