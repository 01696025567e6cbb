def wbM_in_14 (hi : HI) (hl : HL) (Φ : Int32 → HI → HL → Prop) : Prop :=
  i01 (0 : Int32) ∧
  Φ (0 : Int32) hi hl
def wbM_in_0 (v0 : Int32) (v1 : Int32) (v2 : Int32) (hi : HI) (hl : HL) (Φ : Int32 → HI → HL → Prop) : Prop :=
  (v0 < v1 →
    wbM_in_14 hi hl Φ) ∧
  (¬ (v0 < v1) →
    (v2 < v0 →
      wbM_in_14 hi hl Φ) ∧
    (¬ (v2 < v0) →
      i01 (1 : Int32) ∧
      Φ (1 : Int32) hi hl))
def wpM_in (v0 : Int32) (v1 : Int32) (v2 : Int32) (hi : HI) (hl : HL) (Φ : Int32 → HI → HL → Prop) : Prop :=
  wbM_in_0 v0 v1 v2 hi hl Φ
def wbM_type_69 : Nat → Int32 → Int32 → Int32 → HI → HL → (Int32 → HI → HL → Prop) → Prop
  | 0, _, _, _, _, _, _ => False
  | n + 1, v1, v3, v4, hi, hl, Φ =>
    (v4 < 0 →
      i01 v3 ∧
      Φ v3 hi hl) ∧
    (¬ (v4 < 0) →
      (v3 = 0 →
        i01 v3 ∧
        Φ v3 hi hl) ∧
      (¬ (v3 = 0) →
        vp_in (hi 0 1) 40 ∧
        wbM_type_69 n v1 v3 (v4 + Int32.ofInt (-1)) (u2 (u2 hi 1 ((hi 0 1).toNatClampNeg) ((v1 >>> (((8 : Int32) * v4) &&& 31)) &&& (255 : Int32))) 0 1 (((u2 hi 1 ((hi 0 1).toNatClampNeg) ((v1 >>> (((8 : Int32) * v4) &&& 31)) &&& (255 : Int32))) 0 1) + (1 : Int32))) hl Φ))
def wbM_type_64 (v1 : Int32) (v2 : Int32) (v3 : Int32) (hi : HI) (hl : HL) (Φ : Int32 → HI → HL → Prop) : Prop :=
  (∃ fu, wbM_type_69 fu v1 v3 (v2 - (1 : Int32)) hi hl Φ)
def wbM_type_29 : Nat → Int32 → Int32 → Int32 → Int32 → HI → HL → (Int32 → HI → HL → Prop) → Prop
  | 0, _, _, _, _, _, _, _ => False
  | n + 1, v1, v2, v3, v4, hi, hl, Φ =>
    (v2 ≤ v4 →
      wbM_type_64 v1 v2 v3 hi hl Φ) ∧
    (¬ (v2 ≤ v4) →
      (v3 = 0 →
        wbM_type_64 v1 v2 v3 hi hl Φ) ∧
      (¬ (v3 = 0) →
        wpM_in ((v1 >>> (((8 : Int32) * v4) &&& 31)) &&& (255 : Int32)) (32 : Int32) (126 : Int32) hi hl (fun r1 hi2 hl3 =>
          wbM_type_29 n v1 v2 r1 (v4 + Int32.ofInt (1)) hi2 hl3 Φ)))
def wbM_type_25 (v1 : Int32) (v2 : Int32) (q0 : Int32) (hi : HI) (hl : HL) (Φ : Int32 → HI → HL → Prop) : Prop :=
  (∃ fu, wbM_type_29 fu v1 v2 q0 (0 : Int32) hi hl Φ)
def wbM_type_24 (v1 : Int32) (v2 : Int32) (hi : HI) (hl : HL) (Φ : Int32 → HI → HL → Prop) : Prop :=
  wbM_type_25 v1 v2 (0 : Int32) hi hl Φ
def wbM_type_0 (v1 : Int32) (v2 : Int32) (hi : HI) (hl : HL) (Φ : Int32 → HI → HL → Prop) : Prop :=
  wpM_in v2 (1 : Int32) (4 : Int32) hi hl (fun r1 hi2 hl3 =>
    (r1 = 0 →
      wbM_type_24 v1 v2 hi2 hl3 Φ) ∧
    (¬ (r1 = 0) →
      ((40 : Int32) < ((hi2 0 1) + v2) →
        wbM_type_24 v1 v2 hi2 hl3 Φ) ∧
      (¬ ((40 : Int32) < ((hi2 0 1) + v2)) →
        wbM_type_25 v1 v2 (1 : Int32) hi2 hl3 Φ)))
def wpM_type (v1 : Int32) (v2 : Int32) (hi : HI) (hl : HL) (Φ : Int32 → HI → HL → Prop) : Prop :=
  wbM_type_0 v1 v2 hi hl Φ
def wbM_split_98 (k7 : (Int32 → HI → HL → Prop)) (v1 : Int32) (hi : HI) (hl : HL) (Φ : HI → HL → Prop) : Prop :=
  k7 (v1 + Int32.ofInt (1)) hi hl
def wbM_split_73 (k7 : (Int32 → HI → HL → Prop)) (v1 : Int32) (hi : HI) (hl : HL) (Φ : HI → HL → Prop) : Prop :=
  vp_in v1 40 ∧
  ((hi 1 (v1.toNatClampNeg)) = (32 : Int32) →
    wbM_split_98 k7 v1 hi hl Φ) ∧
  (¬ ((hi 1 (v1.toNatClampNeg)) = (32 : Int32)) →
    vp_in ((hi 0 2) - (1 : Int32)) 20 ∧
    wbM_split_98 k7 v1 (u2 hi 3 (((hi 0 2) - (1 : Int32)).toNatClampNeg) (v1 + (1 : Int32))) hl Φ)
def wbM_split_48 (k7 : (Int32 → HI → HL → Prop)) (v1 : Int32) (q0 : Int32) (hi : HI) (hl : HL) (Φ : HI → HL → Prop) : Prop :=
  (q0 = 0 →
    wbM_split_73 k7 v1 hi hl Φ) ∧
  (¬ (q0 = 0) →
    vp_in (hi 0 2) 20 ∧
    wbM_split_73 k7 v1 (u2 (u2 hi 2 ((hi 0 2).toNatClampNeg) v1) 0 2 (((u2 hi 2 ((hi 0 2).toNatClampNeg) v1) 0 2) + (1 : Int32))) hl Φ)
def wbM_split_47 (k7 : (Int32 → HI → HL → Prop)) (v1 : Int32) (hi : HI) (hl : HL) (Φ : HI → HL → Prop) : Prop :=
  wbM_split_48 k7 v1 (0 : Int32) hi hl Φ
def wbM_split_43 (k7 : (Int32 → HI → HL → Prop)) (v1 : Int32) (hi : HI) (hl : HL) (Φ : HI → HL → Prop) : Prop :=
  wbM_split_48 k7 v1 (1 : Int32) hi hl Φ
def wbM_split_7 : Nat → Int32 → HI → HL → (HI → HL → Prop) → Prop
  | 0, _, _, _, _ => False
  | n + 1, v1, hi, hl, Φ =>
    ((hi 0 1) ≤ v1 →
      Φ (u2 hi 0 1 (0 : Int32)) hl) ∧
    (¬ ((hi 0 1) ≤ v1) →
      vp_in v1 40 ∧
      ((hi 1 (v1.toNatClampNeg)) = (32 : Int32) →
        wbM_split_47 (fun v1 hi hl => wbM_split_7 n v1 hi hl Φ) v1 hi hl Φ) ∧
      (¬ ((hi 1 (v1.toNatClampNeg)) = (32 : Int32)) →
        (v1 = 0 →
          wbM_split_43 (fun v1 hi hl => wbM_split_7 n v1 hi hl Φ) v1 hi hl Φ) ∧
        (¬ (v1 = 0) →
          vp_in (v1 - (1 : Int32)) 40 ∧
          ((hi 1 ((v1 - (1 : Int32)).toNatClampNeg)) = (32 : Int32) →
            wbM_split_43 (fun v1 hi hl => wbM_split_7 n v1 hi hl Φ) v1 hi hl Φ) ∧
          (¬ ((hi 1 ((v1 - (1 : Int32)).toNatClampNeg)) = (32 : Int32)) →
            wbM_split_47 (fun v1 hi hl => wbM_split_7 n v1 hi hl Φ) v1 hi hl Φ))))
def wbM_split_0 (hi : HI) (hl : HL) (Φ : HI → HL → Prop) : Prop :=
  (∃ fu, wbM_split_7 fu (0 : Int32) (u2 hi 0 2 (0 : Int32)) hl Φ)
def wpM_split (hi : HI) (hl : HL) (Φ : HI → HL → Prop) : Prop :=
  wbM_split_0 hi hl Φ
def wbM_digits_90 (v3 : Int32) (v4 : Int32) (hi : HI) (hl : HL) (Φ : Int32 → HI → HL → Prop) : Prop :=
  (v3 = 0 →
    Φ (-1 : Int32) hi hl) ∧
  (¬ (v3 = 0) →
    Φ v4 hi hl)
def wbM_digits_41 : Nat → Int32 → Int32 → Int32 → Int32 → HI → HL → (Int32 → HI → HL → Prop) → Prop
  | 0, _, _, _, _, _, _, _ => False
  | n + 1, v2, v3, v4, v5, hi, hl, Φ =>
    (v2 ≤ v5 →
      wbM_digits_90 v3 v4 hi hl Φ) ∧
    (¬ (v2 ≤ v5) →
      (v3 = 0 →
        wbM_digits_90 v3 v4 hi hl Φ) ∧
      (¬ (v3 = 0) →
        vp_in v5 40 ∧
        wpM_in (hi 1 (v5.toNatClampNeg)) (48 : Int32) (57 : Int32) hi hl (fun r2 hi3 hl4 =>
          vp_in v5 40 ∧
          wbM_digits_41 n v2 r2 ((((10 : Int32) * v4) + (hi3 1 (v5.toNatClampNeg))) - (48 : Int32)) (v5 + Int32.ofInt (1)) hi3 hl4 Φ)))
def wbM_digits_34 (v1 : Int32) (v2 : Int32) (q0 : Int32) (hi : HI) (hl : HL) (Φ : Int32 → HI → HL → Prop) : Prop :=
  (∃ fu, wbM_digits_41 fu v2 q0 (0 : Int32) v1 hi hl Φ)
def wbM_digits_33 (v1 : Int32) (v2 : Int32) (hi : HI) (hl : HL) (Φ : Int32 → HI → HL → Prop) : Prop :=
  wbM_digits_34 v1 v2 (0 : Int32) hi hl Φ
def wbM_digits_29 (v1 : Int32) (v2 : Int32) (hi : HI) (hl : HL) (Φ : Int32 → HI → HL → Prop) : Prop :=
  wbM_digits_34 v1 v2 (1 : Int32) hi hl Φ
def wbM_digits_0 (v1 : Int32) (v2 : Int32) (hi : HI) (hl : HL) (Φ : Int32 → HI → HL → Prop) : Prop :=
  wpM_in (v2 - v1) (1 : Int32) (2 : Int32) hi hl (fun r1 hi2 hl3 =>
    (r1 = 0 →
      wbM_digits_33 v1 v2 hi2 hl3 Φ) ∧
    (¬ (r1 = 0) →
      ((v2 - v1) = (2 : Int32) →
        vp_in v1 40 ∧
        ((hi2 1 (v1.toNatClampNeg)) = (48 : Int32) →
          wbM_digits_33 v1 v2 hi2 hl3 Φ) ∧
        (¬ ((hi2 1 (v1.toNatClampNeg)) = (48 : Int32)) →
          wbM_digits_29 v1 v2 hi2 hl3 Φ)) ∧
      (¬ ((v2 - v1) = (2 : Int32)) →
        wbM_digits_29 v1 v2 hi2 hl3 Φ)))
def wpM_digits (v1 : Int32) (v2 : Int32) (hi : HI) (hl : HL) (Φ : Int32 → HI → HL → Prop) : Prop :=
  wbM_digits_0 v1 v2 hi hl Φ
def wbM_number_0 (v1 : Int32) (hi : HI) (hl : HL) (Φ : Int32 → HI → HL → Prop) : Prop :=
  ((hi 0 2) ≤ v1 →
    Φ (-1 : Int32) hi hl) ∧
  (¬ ((hi 0 2) ≤ v1) →
    vp_in v1 20 ∧
    vp_in v1 20 ∧
    wpM_digits (hi 2 (v1.toNatClampNeg)) (hi 3 (v1.toNatClampNeg)) hi hl (fun r3 hi4 hl5 =>
      Φ r3 hi4 hl5))
def wpM_number (v1 : Int32) (hi : HI) (hl : HL) (Φ : Int32 → HI → HL → Prop) : Prop :=
  wbM_number_0 v1 hi hl Φ
def wbM_letters_109 (v2 : Int64) (v4 : Int32) (hi : HI) (hl : HL) (Φ : Int64 → HI → HL → Prop) : Prop :=
  (v4 = 0 →
    Φ (0 : Int64) hi hl) ∧
  (¬ (v4 = 0) →
    Φ v2 hi hl)
def wbM_letters_52 : Nat → Int32 → Int64 → Int32 → Int32 → HI → HL → (Int64 → HI → HL → Prop) → Prop
  | 0, _, _, _, _, _, _, _ => False
  | n + 1, v1, v2, v4, v5, hi, hl, Φ =>
    (v4 = 0 →
      wbM_letters_109 v2 v4 hi hl Φ) ∧
    (¬ (v4 = 0) →
      vp_in v1 20 ∧
      ((hi 3 (v1.toNatClampNeg)) ≤ v5 →
        wbM_letters_109 v2 v4 hi hl Φ) ∧
      (¬ ((hi 3 (v1.toNatClampNeg)) ≤ v5) →
        vp_in v5 40 ∧
        wpM_in (hi 1 (v5.toNatClampNeg)) (97 : Int32) (122 : Int32) hi hl (fun r3 hi4 hl5 =>
          vp_in v5 40 ∧
          wbM_letters_52 n v1 ((((32 : Int64) * v2) + ((hi4 1 (v5.toNatClampNeg)).toInt64)) - (96 : Int64)) r3 (v5 + Int32.ofInt (1)) hi4 hl5 Φ)))
def wbM_letters_50 (v1 : Int32) (v2 : Int64) (v4 : Int32) (q0 : Int32) (hi : HI) (hl : HL) (Φ : Int64 → HI → HL → Prop) : Prop :=
  (∃ fu, wbM_letters_52 fu v1 v2 v4 q0 hi hl Φ)
def wbM_letters_33 (v1 : Int32) (v2 : Int64) (q0 : Int32) (hi : HI) (hl : HL) (Φ : Int64 → HI → HL → Prop) : Prop :=
  (q0 = 0 →
    wbM_letters_50 v1 v2 q0 (0 : Int32) hi hl Φ) ∧
  (¬ (q0 = 0) →
    vp_in v1 20 ∧
    wbM_letters_50 v1 v2 q0 (hi 2 (v1.toNatClampNeg)) hi hl Φ)
def wbM_letters_32 (v1 : Int32) (v2 : Int64) (hi : HI) (hl : HL) (Φ : Int64 → HI → HL → Prop) : Prop :=
  wbM_letters_33 v1 v2 (0 : Int32) hi hl Φ
def wbM_letters_0 (v1 : Int32) (hi : HI) (hl : HL) (Φ : Int64 → HI → HL → Prop) : Prop :=
  ((hi 0 2) ≤ v1 →
    wbM_letters_32 v1 (0 : Int64) hi hl Φ) ∧
  (¬ ((hi 0 2) ≤ v1) →
    vp_in v1 20 ∧
    vp_in v1 20 ∧
    ((10 : Int32) < ((hi 3 (v1.toNatClampNeg)) - (hi 2 (v1.toNatClampNeg))) →
      wbM_letters_32 v1 (0 : Int64) hi hl Φ) ∧
    (¬ ((10 : Int32) < ((hi 3 (v1.toNatClampNeg)) - (hi 2 (v1.toNatClampNeg)))) →
      wbM_letters_33 v1 (0 : Int64) (1 : Int32) hi hl Φ))
def wpM_letters (v1 : Int32) (hi : HI) (hl : HL) (Φ : Int64 → HI → HL → Prop) : Prop :=
  wbM_letters_0 v1 hi hl Φ
def wbM_kindOf_445 (v0 : Int64) (q0 : Int32) (hi : HI) (hl : HL) (Φ : Int32 → HI → HL → Prop) : Prop :=
  ((lg_cmp v0 (122547918120404 : Int64)) = 0 →
    Φ (30 : Int32) hi hl) ∧
  (¬ ((lg_cmp v0 (122547918120404 : Int64)) = 0) →
    Φ q0 hi hl)
def wbM_kindOf_430 (v0 : Int64) (q0 : Int32) (hi : HI) (hl : HL) (Φ : Int32 → HI → HL → Prop) : Prop :=
  ((lg_cmp v0 (2084 : Int64)) = 0 →
    wbM_kindOf_445 v0 (29 : Int32) hi hl Φ) ∧
  (¬ ((lg_cmp v0 (2084 : Int64)) = 0) →
    wbM_kindOf_445 v0 q0 hi hl Φ)
def wbM_kindOf_415 (v0 : Int64) (q0 : Int32) (hi : HI) (hl : HL) (Φ : Int32 → HI → HL → Prop) : Prop :=
  ((lg_cmp v0 (464660 : Int64)) = 0 →
    wbM_kindOf_430 v0 (28 : Int32) hi hl Φ) ∧
  (¬ ((lg_cmp v0 (464660 : Int64)) = 0) →
    wbM_kindOf_430 v0 q0 hi hl Φ)
def wbM_kindOf_400 (v0 : Int64) (q0 : Int32) (hi : HI) (hl : HL) (Φ : Int32 → HI → HL → Prop) : Prop :=
  ((lg_cmp v0 (309556 : Int64)) = 0 →
    wbM_kindOf_415 v0 (27 : Int32) hi hl Φ) ∧
  (¬ ((lg_cmp v0 (309556 : Int64)) = 0) →
    wbM_kindOf_415 v0 q0 hi hl Φ)
def wbM_kindOf_385 (v0 : Int64) (q0 : Int32) (hi : HI) (hl : HL) (Φ : Int32 → HI → HL → Prop) : Prop :=
  ((lg_cmp v0 (24716933 : Int64)) = 0 →
    wbM_kindOf_400 v0 (26 : Int32) hi hl Φ) ∧
  (¬ ((lg_cmp v0 (24716933 : Int64)) = 0) →
    wbM_kindOf_400 v0 q0 hi hl Φ)
def wbM_kindOf_370 (v0 : Int64) (q0 : Int32) (hi : HI) (hl : HL) (Φ : Int32 → HI → HL → Prop) : Prop :=
  ((lg_cmp v0 (594980 : Int64)) = 0 →
    wbM_kindOf_385 v0 (25 : Int32) hi hl Φ) ∧
  (¬ ((lg_cmp v0 (594980 : Int64)) = 0) →
    wbM_kindOf_385 v0 q0 hi hl Φ)
def wbM_kindOf_355 (v0 : Int64) (q0 : Int32) (hi : HI) (hl : HL) (Φ : Int32 → HI → HL → Prop) : Prop :=
  ((lg_cmp v0 (9861 : Int64)) = 0 →
    wbM_kindOf_370 v0 (24 : Int32) hi hl Φ) ∧
  (¬ ((lg_cmp v0 (9861 : Int64)) = 0) →
    wbM_kindOf_370 v0 q0 hi hl Φ)
def wbM_kindOf_340 (v0 : Int64) (q0 : Int32) (hi : HI) (hl : HL) (Φ : Int32 → HI → HL → Prop) : Prop :=
  ((lg_cmp v0 (628500 : Int64)) = 0 →
    wbM_kindOf_355 v0 (23 : Int32) hi hl Φ) ∧
  (¬ ((lg_cmp v0 (628500 : Int64)) = 0) →
    wbM_kindOf_355 v0 q0 hi hl Φ)
def wbM_kindOf_325 (v0 : Int64) (q0 : Int32) (hi : HI) (hl : HL) (Φ : Int32 → HI → HL → Prop) : Prop :=
  ((lg_cmp v0 (694036 : Int64)) = 0 →
    wbM_kindOf_340 v0 (22 : Int32) hi hl Φ) ∧
  (¬ ((lg_cmp v0 (694036 : Int64)) = 0) →
    wbM_kindOf_340 v0 q0 hi hl Φ)
def wbM_kindOf_310 (v0 : Int64) (q0 : Int32) (hi : HI) (hl : HL) (Φ : Int32 → HI → HL → Prop) : Prop :=
  ((lg_cmp v0 (20325477 : Int64)) = 0 →
    wbM_kindOf_325 v0 (21 : Int32) hi hl Φ) ∧
  (¬ ((lg_cmp v0 (20325477 : Int64)) = 0) →
    wbM_kindOf_325 v0 q0 hi hl Φ)
def wbM_kindOf_295 (v0 : Int64) (q0 : Int32) (hi : HI) (hl : HL) (Φ : Int32 → HI → HL → Prop) : Prop :=
  ((lg_cmp v0 (116853812 : Int64)) = 0 →
    wbM_kindOf_310 v0 (20 : Int32) hi hl Φ) ∧
  (¬ ((lg_cmp v0 (116853812 : Int64)) = 0) →
    wbM_kindOf_310 v0 q0 hi hl Φ)
def wbM_kindOf_280 (v0 : Int64) (q0 : Int32) (hi : HI) (hl : HL) (Φ : Int32 → HI → HL → Prop) : Prop :=
  ((lg_cmp v0 (19860 : Int64)) = 0 →
    wbM_kindOf_295 v0 (19 : Int32) hi hl Φ) ∧
  (¬ ((lg_cmp v0 (19860 : Int64)) = 0) →
    wbM_kindOf_295 v0 q0 hi hl Φ)
def wbM_kindOf_265 (v0 : Int64) (q0 : Int32) (hi : HI) (hl : HL) (Φ : Int32 → HI → HL → Prop) : Prop :=
  ((lg_cmp v0 (21908 : Int64)) = 0 →
    wbM_kindOf_280 v0 (18 : Int32) hi hl Φ) ∧
  (¬ ((lg_cmp v0 (21908 : Int64)) = 0) →
    wbM_kindOf_280 v0 q0 hi hl Φ)
def wbM_kindOf_250 (v0 : Int64) (q0 : Int32) (hi : HI) (hl : HL) (Φ : Int32 → HI → HL → Prop) : Prop :=
  ((lg_cmp v0 (177 : Int64)) = 0 →
    wbM_kindOf_265 v0 (17 : Int32) hi hl Φ) ∧
  (¬ ((lg_cmp v0 (177 : Int64)) = 0) →
    wbM_kindOf_265 v0 q0 hi hl Φ)
def wbM_kindOf_235 (v0 : Int64) (q0 : Int32) (hi : HI) (hl : HL) (Φ : Int32 → HI → HL → Prop) : Prop :=
  ((lg_cmp v0 (20044 : Int64)) = 0 →
    wbM_kindOf_250 v0 (16 : Int32) hi hl Φ) ∧
  (¬ ((lg_cmp v0 (20044 : Int64)) = 0) →
    wbM_kindOf_250 v0 q0 hi hl Φ)
def wbM_kindOf_220 (v0 : Int64) (q0 : Int32) (hi : HI) (hl : HL) (Φ : Int32 → HI → HL → Prop) : Prop :=
  ((lg_cmp v0 (19852 : Int64)) = 0 →
    wbM_kindOf_235 v0 (15 : Int32) hi hl Φ) ∧
  (¬ ((lg_cmp v0 (19852 : Int64)) = 0) →
    wbM_kindOf_235 v0 q0 hi hl Φ)
def wbM_kindOf_205 (v0 : Int64) (q0 : Int32) (hi : HI) (hl : HL) (Φ : Int32 → HI → HL → Prop) : Prop :=
  ((lg_cmp v0 (706733 : Int64)) = 0 →
    wbM_kindOf_220 v0 (14 : Int32) hi hl Φ) ∧
  (¬ ((lg_cmp v0 (706733 : Int64)) = 0) →
    wbM_kindOf_220 v0 q0 hi hl Φ)
def wbM_kindOf_190 (v0 : Int64) (q0 : Int32) (hi : HI) (hl : HL) (Φ : Int32 → HI → HL → Prop) : Prop :=
  ((lg_cmp v0 (692534 : Int64)) = 0 →
    wbM_kindOf_205 v0 (13 : Int32) hi hl Φ) ∧
  (¬ ((lg_cmp v0 (692534 : Int64)) = 0) →
    wbM_kindOf_205 v0 q0 hi hl Φ)
def wbM_kindOf_175 (v0 : Int64) (q0 : Int32) (hi : HI) (hl : HL) (Φ : Int32 → HI → HL → Prop) : Prop :=
  ((lg_cmp v0 (13996 : Int64)) = 0 →
    wbM_kindOf_190 v0 (12 : Int32) hi hl Φ) ∧
  (¬ ((lg_cmp v0 (13996 : Int64)) = 0) →
    wbM_kindOf_190 v0 q0 hi hl Φ)
def wbM_kindOf_160 (v0 : Int64) (q0 : Int32) (hi : HI) (hl : HL) (Φ : Int32 → HI → HL → Prop) : Prop :=
  ((lg_cmp v0 (20130 : Int64)) = 0 →
    wbM_kindOf_175 v0 (11 : Int32) hi hl Φ) ∧
  (¬ ((lg_cmp v0 (20130 : Int64)) = 0) →
    wbM_kindOf_175 v0 q0 hi hl Φ)
def wbM_kindOf_145 (v0 : Int64) (q0 : Int32) (hi : HI) (hl : HL) (Φ : Int32 → HI → HL → Prop) : Prop :=
  ((lg_cmp v0 (1156 : Int64)) = 0 →
    wbM_kindOf_160 v0 (10 : Int32) hi hl Φ) ∧
  (¬ ((lg_cmp v0 (1156 : Int64)) = 0) →
    wbM_kindOf_160 v0 q0 hi hl Φ)
def wbM_kindOf_130 (v0 : Int64) (q0 : Int32) (hi : HI) (hl : HL) (Φ : Int32 → HI → HL → Prop) : Prop :=
  ((lg_cmp v0 (25074 : Int64)) = 0 →
    wbM_kindOf_145 v0 (9 : Int32) hi hl Φ) ∧
  (¬ ((lg_cmp v0 (25074 : Int64)) = 0) →
    wbM_kindOf_145 v0 q0 hi hl Φ)
def wbM_kindOf_115 (v0 : Int64) (q0 : Int32) (hi : HI) (hl : HL) (Φ : Int32 → HI → HL → Prop) : Prop :=
  ((lg_cmp v0 (498 : Int64)) = 0 →
    wbM_kindOf_130 v0 (8 : Int32) hi hl Φ) ∧
  (¬ ((lg_cmp v0 (498 : Int64)) = 0) →
    wbM_kindOf_130 v0 q0 hi hl Φ)
def wbM_kindOf_100 (v0 : Int64) (q0 : Int32) (hi : HI) (hl : HL) (Φ : Int32 → HI → HL → Prop) : Prop :=
  ((lg_cmp v0 (1476 : Int64)) = 0 →
    wbM_kindOf_115 v0 (7 : Int32) hi hl Φ) ∧
  (¬ ((lg_cmp v0 (1476 : Int64)) = 0) →
    wbM_kindOf_115 v0 q0 hi hl Φ)
def wbM_kindOf_85 (v0 : Int64) (q0 : Int32) (hi : HI) (hl : HL) (Φ : Int32 → HI → HL → Prop) : Prop :=
  ((lg_cmp v0 (19042802 : Int64)) = 0 →
    wbM_kindOf_100 v0 (6 : Int32) hi hl Φ) ∧
  (¬ ((lg_cmp v0 (19042802 : Int64)) = 0) →
    wbM_kindOf_100 v0 q0 hi hl Φ)
def wbM_kindOf_71 (v0 : Int64) (q0 : Int32) (hi : HI) (hl : HL) (Φ : Int32 → HI → HL → Prop) : Prop :=
  ((lg_cmp v0 (14503 : Int64)) = 0 →
    wbM_kindOf_85 v0 (5 : Int32) hi hl Φ) ∧
  (¬ ((lg_cmp v0 (14503 : Int64)) = 0) →
    wbM_kindOf_85 v0 q0 hi hl Φ)
def wbM_kindOf_57 (v0 : Int64) (q0 : Int32) (hi : HI) (hl : HL) (Φ : Int32 → HI → HL → Prop) : Prop :=
  ((lg_cmp v0 (14836 : Int64)) = 0 →
    wbM_kindOf_71 v0 (4 : Int32) hi hl Φ) ∧
  (¬ ((lg_cmp v0 (14836 : Int64)) = 0) →
    wbM_kindOf_71 v0 q0 hi hl Φ)
def wbM_kindOf_43 (v0 : Int64) (q0 : Int32) (hi : HI) (hl : HL) (Φ : Int32 → HI → HL → Prop) : Prop :=
  ((lg_cmp v0 (116870788 : Int64)) = 0 →
    wbM_kindOf_57 v0 (3 : Int32) hi hl Φ) ∧
  (¬ ((lg_cmp v0 (116870788 : Int64)) = 0) →
    wbM_kindOf_57 v0 q0 hi hl Φ)
def wbM_kindOf_29 (v0 : Int64) (q0 : Int32) (hi : HI) (hl : HL) (Φ : Int32 → HI → HL → Prop) : Prop :=
  ((lg_cmp v0 (20579973 : Int64)) = 0 →
    wbM_kindOf_43 v0 (2 : Int32) hi hl Φ) ∧
  (¬ ((lg_cmp v0 (20579973 : Int64)) = 0) →
    wbM_kindOf_43 v0 q0 hi hl Φ)
def wbM_kindOf_15 (v0 : Int64) (q0 : Int32) (hi : HI) (hl : HL) (Φ : Int32 → HI → HL → Prop) : Prop :=
  ((lg_cmp v0 (9913012 : Int64)) = 0 →
    wbM_kindOf_29 v0 (1 : Int32) hi hl Φ) ∧
  (¬ ((lg_cmp v0 (9913012 : Int64)) = 0) →
    wbM_kindOf_29 v0 q0 hi hl Φ)
def wbM_kindOf_0 (v0 : Int64) (hi : HI) (hl : HL) (Φ : Int32 → HI → HL → Prop) : Prop :=
  ((lg_cmp v0 (638548 : Int64)) = 0 →
    wbM_kindOf_15 v0 (0 : Int32) hi hl Φ) ∧
  (¬ ((lg_cmp v0 (638548 : Int64)) = 0) →
    wbM_kindOf_15 v0 (-1 : Int32) hi hl Φ)
def wpM_kindOf (v0 : Int64) (hi : HI) (hl : HL) (Φ : Int32 → HI → HL → Prop) : Prop :=
  wbM_kindOf_0 v0 hi hl Φ
def wbM_lineOf_27 (k4 : (Int32 → Int32 → Int32 → HI → HL → Prop)) (v1 : Int32) (v3 : Int32) (q0 : Int32) (hi : HI) (hl : HL) (Φ : Int32 → HI → HL → Prop) : Prop :=
  k4 v1 q0 (v3 + Int32.ofInt (1)) hi hl
def wbM_lineOf_4 : Nat → Int32 → Int32 → Int32 → HI → HL → (Int32 → HI → HL → Prop) → Prop
  | 0, _, _, _, _, _, _ => False
  | n + 1, v1, v2, v3, hi, hl, Φ =>
    ((hi 0 6) ≤ v3 →
      Φ v2 hi hl) ∧
    (¬ ((hi 0 6) ≤ v3) →
      vp_in v3 21 ∧
      ((hi 4 (v3.toNatClampNeg)) = v1 →
        wbM_lineOf_27 (fun v1 v2 v3 hi hl => wbM_lineOf_4 n v1 v2 v3 hi hl Φ) v1 v3 v3 hi hl Φ) ∧
      (¬ ((hi 4 (v3.toNatClampNeg)) = v1) →
        wbM_lineOf_27 (fun v1 v2 v3 hi hl => wbM_lineOf_4 n v1 v2 v3 hi hl Φ) v1 v3 v2 hi hl Φ))
def wbM_lineOf_0 (v1 : Int32) (hi : HI) (hl : HL) (Φ : Int32 → HI → HL → Prop) : Prop :=
  (∃ fu, wbM_lineOf_4 fu v1 (-1 : Int32) (0 : Int32) hi hl Φ)
def wpM_lineOf (v1 : Int32) (hi : HI) (hl : HL) (Φ : Int32 → HI → HL → Prop) : Prop :=
  wbM_lineOf_0 v1 hi hl Φ
def wbM_isNode_28 (hi : HI) (hl : HL) (Φ : Int32 → HI → HL → Prop) : Prop :=
  i01 (0 : Int32) ∧
  Φ (0 : Int32) hi hl
def wbM_isNode_0 (v1 : Int32) (hi : HI) (hl : HL) (Φ : Int32 → HI → HL → Prop) : Prop :=
  (v1 < 0 →
    wbM_isNode_28 hi hl Φ) ∧
  (¬ (v1 < 0) →
    vp_in v1 21 ∧
    ((hi 5 (v1.toNatClampNeg)) = 0 →
      wbM_isNode_28 hi hl Φ) ∧
    (¬ ((hi 5 (v1.toNatClampNeg)) = 0) →
      vp_in v1 21 ∧
      ((27 : Int32) ≤ (hi 5 (v1.toNatClampNeg)) →
        wbM_isNode_28 hi hl Φ) ∧
      (¬ ((27 : Int32) ≤ (hi 5 (v1.toNatClampNeg))) →
        i01 (1 : Int32) ∧
        Φ (1 : Int32) hi hl)))
def wpM_isNode (v1 : Int32) (hi : HI) (hl : HL) (Φ : Int32 → HI → HL → Prop) : Prop :=
  wbM_isNode_0 v1 hi hl Φ
def wbM_isBits_0 (v1 : Int32) (hi : HI) (hl : HL) (Φ : Int32 → HI → HL → Prop) : Prop :=
  vp_in v1 21 ∧
  ((hi 15 (v1.toNatClampNeg)) = 0 →
    i01 (1 : Int32) ∧
    Φ (1 : Int32) hi hl) ∧
  (¬ ((hi 15 (v1.toNatClampNeg)) = 0) →
    i01 (0 : Int32) ∧
    Φ (0 : Int32) hi hl)
def wpM_isBits (v1 : Int32) (hi : HI) (hl : HL) (Φ : Int32 → HI → HL → Prop) : Prop :=
  wbM_isBits_0 v1 hi hl Φ
def wbM_sameSort_34 (hi : HI) (hl : HL) (Φ : Int32 → HI → HL → Prop) : Prop :=
  i01 (0 : Int32) ∧
  Φ (0 : Int32) hi hl
def wbM_sameSort_0 (v1 : Int32) (v2 : Int32) (hi : HI) (hl : HL) (Φ : Int32 → HI → HL → Prop) : Prop :=
  vp_in v1 21 ∧
  vp_in v2 21 ∧
  ((hi 15 (v1.toNatClampNeg)) = (hi 15 (v2.toNatClampNeg)) →
    vp_in v1 21 ∧
    vp_in v2 21 ∧
    ((hi 16 (v1.toNatClampNeg)) = (hi 16 (v2.toNatClampNeg)) →
      i01 (1 : Int32) ∧
      Φ (1 : Int32) hi hl) ∧
    (¬ ((hi 16 (v1.toNatClampNeg)) = (hi 16 (v2.toNatClampNeg))) →
      wbM_sameSort_34 hi hl Φ)) ∧
  (¬ ((hi 15 (v1.toNatClampNeg)) = (hi 15 (v2.toNatClampNeg))) →
    wbM_sameSort_34 hi hl Φ)
def wpM_sameSort (v1 : Int32) (v2 : Int32) (hi : HI) (hl : HL) (Φ : Int32 → HI → HL → Prop) : Prop :=
  wbM_sameSort_0 v1 v2 hi hl Φ
def wbM_bits_0 (v1 : Int32) (hi : HI) (hl : HL) (Φ : Int32 → HI → HL → Prop) : Prop :=
  vp_in v1 21 ∧
  ((hi 15 (v1.toNatClampNeg)) = 0 →
    vp_in v1 21 ∧
    Φ (hi 16 (v1.toNatClampNeg)) hi hl) ∧
  (¬ ((hi 15 (v1.toNatClampNeg)) = 0) →
    vp_in v1 21 ∧
    Φ ((2 : Int32) * (hi 16 (v1.toNatClampNeg))) hi hl)
def wpM_bits (v1 : Int32) (hi : HI) (hl : HL) (Φ : Int32 → HI → HL → Prop) : Prop :=
  wbM_bits_0 v1 hi hl Φ
def wbM_sortWord_40 (hi : HI) (hl : HL) (Φ : Int32 → HI → HL → Prop) : Prop :=
  Φ (-1 : Int32) hi hl
def wbM_sortWord_22 (q0 : Int32) (hi : HI) (hl : HL) (Φ : Int32 → HI → HL → Prop) : Prop :=
  (q0 < 0 →
    wbM_sortWord_40 hi hl Φ) ∧
  (¬ (q0 < 0) →
    vp_in q0 21 ∧
    ((hi 5 (q0.toNatClampNeg)) = 0 →
      Φ q0 hi hl) ∧
    (¬ ((hi 5 (q0.toNatClampNeg)) = 0) →
      wbM_sortWord_40 hi hl Φ))
def wbM_sortWord_0 (hi : HI) (hl : HL) (Φ : Int32 → HI → HL → Prop) : Prop :=
  wpM_number (hi 0 5) hi hl (fun r1 hi2 hl3 =>
    (0 ≤ r1 →
      wpM_lineOf r1 hi2 hl3 (fun r4 hi5 hl6 =>
        wbM_sortWord_22 r4 hi5 hl6 Φ)) ∧
    (¬ (0 ≤ r1) →
      wbM_sortWord_22 (-1 : Int32) hi2 hl3 Φ))
def wpM_sortWord (hi : HI) (hl : HL) (Φ : Int32 → HI → HL → Prop) : Prop :=
  wbM_sortWord_0 hi hl Φ
def wbM_nodeWord_145 (v2 : Int32) (q0 : Int32) (hi : HI) (hl : HL) (Φ : Int32 → HI → HL → Prop) : Prop :=
  (q0 = 0 →
    Φ (-1 : Int32) hi hl) ∧
  (¬ (q0 = 0) →
    Φ v2 hi hl)
def wbM_nodeWord_144 (v2 : Int32) (hi : HI) (hl : HL) (Φ : Int32 → HI → HL → Prop) : Prop :=
  wbM_nodeWord_145 v2 (0 : Int32) hi hl Φ
def wbM_nodeWord_140 (v2 : Int32) (hi : HI) (hl : HL) (Φ : Int32 → HI → HL → Prop) : Prop :=
  wbM_nodeWord_145 v2 (1 : Int32) hi hl Φ
def wbM_nodeWord_110 (q0 : Int32) (hi : HI) (hl : HL) (Φ : Int32 → HI → HL → Prop) : Prop :=
  wpM_isNode q0 hi hl (fun r1 hi2 hl3 =>
    (r1 = 0 →
      wbM_nodeWord_144 q0 hi2 hl3 Φ) ∧
    (¬ (r1 = 0) →
      ((hi2 0 20) = 0 →
        wbM_nodeWord_140 q0 hi2 hl3 Φ) ∧
      (¬ ((hi2 0 20) = 0) →
        vp_in q0 21 ∧
        vp_in (hi2 6 (q0.toNatClampNeg)) 21 ∧
        ((hi2 15 ((hi2 6 (q0.toNatClampNeg)).toNatClampNeg)) = 0 →
          wbM_nodeWord_140 q0 hi2 hl3 Φ) ∧
        (¬ ((hi2 15 ((hi2 6 (q0.toNatClampNeg)).toNatClampNeg)) = 0) →
          wbM_nodeWord_144 q0 hi2 hl3 Φ))))
def wbM_nodeWord_96 (q0 : Int32) (hi : HI) (hl : HL) (Φ : Int32 → HI → HL → Prop) : Prop :=
  (0 ≤ q0 →
    wpM_lineOf q0 hi hl (fun r1 hi2 hl3 =>
      wbM_nodeWord_110 r1 hi2 hl3 Φ)) ∧
  (¬ (0 ≤ q0) →
    wbM_nodeWord_110 (-1 : Int32) hi hl Φ)
def wbM_nodeWord_36 (q1 : Int32) (hi : HI) (hl : HL) (Φ : Int32 → HI → HL → Prop) : Prop :=
  i01 q1 ∧
  (((u2 hi 0 20 q1) 0 5) < ((u2 hi 0 20 q1) 0 2) →
    (((u2 hi 0 20 q1) 0 20) = 0 →
      wpM_number ((u2 hi 0 20 q1) 0 5) (u2 hi 0 20 q1) hl (fun r2 hi3 hl4 =>
        wbM_nodeWord_96 r2 hi3 hl4 Φ)) ∧
    (¬ (((u2 hi 0 20 q1) 0 20) = 0) →
      vp_in ((u2 hi 0 20 q1) 0 5) 20 ∧
      vp_in ((u2 hi 0 20 q1) 0 5) 20 ∧
      wpM_digits (((u2 hi 0 20 q1) 2 (((u2 hi 0 20 q1) 0 5).toNatClampNeg)) + (1 : Int32)) ((u2 hi 0 20 q1) 3 (((u2 hi 0 20 q1) 0 5).toNatClampNeg)) (u2 hi 0 20 q1) hl (fun r7 hi8 hl9 =>
        wbM_nodeWord_96 r7 hi8 hl9 Φ))) ∧
  (¬ (((u2 hi 0 20 q1) 0 5) < ((u2 hi 0 20 q1) 0 2)) →
    wbM_nodeWord_96 (-1 : Int32) (u2 hi 0 20 q1) hl Φ)
def wbM_nodeWord_35 (hi : HI) (hl : HL) (Φ : Int32 → HI → HL → Prop) : Prop :=
  wbM_nodeWord_36 (0 : Int32) hi hl Φ
def wbM_nodeWord_0 (hi : HI) (hl : HL) (Φ : Int32 → HI → HL → Prop) : Prop :=
  ((hi 0 2) ≤ (hi 0 5) →
    wbM_nodeWord_35 hi hl Φ) ∧
  (¬ ((hi 0 2) ≤ (hi 0 5)) →
    vp_in (hi 0 5) 20 ∧
    vp_in (hi 2 ((hi 0 5).toNatClampNeg)) 40 ∧
    ((hi 1 ((hi 2 ((hi 0 5).toNatClampNeg)).toNatClampNeg)) = (45 : Int32) →
      wbM_nodeWord_36 (1 : Int32) hi hl Φ) ∧
    (¬ ((hi 1 ((hi 2 ((hi 0 5).toNatClampNeg)).toNatClampNeg)) = (45 : Int32)) →
      wbM_nodeWord_35 hi hl Φ))
def wpM_nodeWord (hi : HI) (hl : HL) (Φ : Int32 → HI → HL → Prop) : Prop :=
  wbM_nodeWord_0 hi hl Φ
def wbM_on_0 (v1 : Int32) (hi : HI) (hl : HL) (Φ : Int32 → HI → HL → Prop) : Prop :=
  (v1 = 0 →
    i01 v1 ∧
    Φ v1 (u2 hi 0 5 (hi 0 5)) hl) ∧
  (¬ (v1 = 0) →
    i01 v1 ∧
    Φ v1 (u2 hi 0 5 ((hi 0 5) + (1 : Int32))) hl)
def wpM_on (v1 : Int32) (hi : HI) (hl : HL) (Φ : Int32 → HI → HL → Prop) : Prop :=
  wbM_on_0 v1 hi hl Φ
def wbM_readA_55 (hi : HI) (hl : HL) (Φ : Int32 → HI → HL → Prop) : Prop :=
  wpM_on (0 : Int32) hi hl (fun r1 hi2 hl3 =>
    i01 r1 ∧
    Φ r1 hi2 hl3)
def wbM_readA_51 (hi : HI) (hl : HL) (Φ : Int32 → HI → HL → Prop) : Prop :=
  wpM_on (1 : Int32) hi hl (fun r1 hi2 hl3 =>
    i01 r1 ∧
    Φ r1 hi2 hl3)
def wbM_readA_0 (v1 : Int32) (v2 : Int32) (hi : HI) (hl : HL) (Φ : Int32 → HI → HL → Prop) : Prop :=
  wpM_nodeWord hi hl (fun r1 hi2 hl3 =>
    vp_in (hi2 0 6) 21 ∧
    vp_in ((u2 hi2 7 ((hi2 0 6).toNatClampNeg) r1) 0 6) 21 ∧
    (r1 < 0 →
      wbM_readA_55 (u2 (u2 hi2 7 ((hi2 0 6).toNatClampNeg) r1) 10 (((u2 hi2 7 ((hi2 0 6).toNatClampNeg) r1) 0 6).toNatClampNeg) (vp_nar .boolean ((u2 hi2 7 ((hi2 0 6).toNatClampNeg) r1) 0 20))) hl3 Φ) ∧
    (¬ (r1 < 0) →
      (v1 = 0 →
        vp_in r1 21 ∧
        wpM_sameSort ((u2 (u2 hi2 7 ((hi2 0 6).toNatClampNeg) r1) 10 (((u2 hi2 7 ((hi2 0 6).toNatClampNeg) r1) 0 6).toNatClampNeg) (vp_nar .boolean ((u2 hi2 7 ((hi2 0 6).toNatClampNeg) r1) 0 20))) 6 (r1.toNatClampNeg)) v2 (u2 (u2 hi2 7 ((hi2 0 6).toNatClampNeg) r1) 10 (((u2 hi2 7 ((hi2 0 6).toNatClampNeg) r1) 0 6).toNatClampNeg) (vp_nar .boolean ((u2 hi2 7 ((hi2 0 6).toNatClampNeg) r1) 0 20))) hl3 (fun r7 hi8 hl9 =>
          (r7 = 0 →
            wbM_readA_55 hi8 hl9 Φ) ∧
          (¬ (r7 = 0) →
            wbM_readA_51 hi8 hl9 Φ))) ∧
      (¬ (v1 = 0) →
        wbM_readA_51 (u2 (u2 hi2 7 ((hi2 0 6).toNatClampNeg) r1) 10 (((u2 hi2 7 ((hi2 0 6).toNatClampNeg) r1) 0 6).toNatClampNeg) (vp_nar .boolean ((u2 hi2 7 ((hi2 0 6).toNatClampNeg) r1) 0 20))) hl3 Φ)))
def wpM_readA (v1 : Int32) (v2 : Int32) (hi : HI) (hl : HL) (Φ : Int32 → HI → HL → Prop) : Prop :=
  wbM_readA_0 v1 v2 hi hl Φ
def wbM_readB_51 (hi : HI) (hl : HL) (Φ : Int32 → HI → HL → Prop) : Prop :=
  wpM_on (0 : Int32) hi hl (fun r1 hi2 hl3 =>
    i01 r1 ∧
    Φ r1 hi2 hl3)
def wbM_readB_0 (v1 : Int32) (hi : HI) (hl : HL) (Φ : Int32 → HI → HL → Prop) : Prop :=
  wpM_nodeWord hi hl (fun r1 hi2 hl3 =>
    vp_in (hi2 0 6) 21 ∧
    vp_in ((u2 hi2 8 ((hi2 0 6).toNatClampNeg) r1) 0 6) 21 ∧
    (r1 < 0 →
      wbM_readB_51 (u2 (u2 hi2 8 ((hi2 0 6).toNatClampNeg) r1) 11 (((u2 hi2 8 ((hi2 0 6).toNatClampNeg) r1) 0 6).toNatClampNeg) (vp_nar .boolean ((u2 hi2 8 ((hi2 0 6).toNatClampNeg) r1) 0 20))) hl3 Φ) ∧
    (¬ (r1 < 0) →
      vp_in r1 21 ∧
      wpM_sameSort ((u2 (u2 hi2 8 ((hi2 0 6).toNatClampNeg) r1) 11 (((u2 hi2 8 ((hi2 0 6).toNatClampNeg) r1) 0 6).toNatClampNeg) (vp_nar .boolean ((u2 hi2 8 ((hi2 0 6).toNatClampNeg) r1) 0 20))) 6 (r1.toNatClampNeg)) v1 (u2 (u2 hi2 8 ((hi2 0 6).toNatClampNeg) r1) 11 (((u2 hi2 8 ((hi2 0 6).toNatClampNeg) r1) 0 6).toNatClampNeg) (vp_nar .boolean ((u2 hi2 8 ((hi2 0 6).toNatClampNeg) r1) 0 20))) hl3 (fun r7 hi8 hl9 =>
        (r7 = 0 →
          wbM_readB_51 hi8 hl9 Φ) ∧
        (¬ (r7 = 0) →
          wpM_on (1 : Int32) hi8 hl9 (fun r10 hi11 hl12 =>
            i01 r10 ∧
            Φ r10 hi11 hl12)))))
def wpM_readB (v1 : Int32) (hi : HI) (hl : HL) (Φ : Int32 → HI → HL → Prop) : Prop :=
  wbM_readB_0 v1 hi hl Φ
def wbM_bitsA_69 (hi : HI) (hl : HL) (Φ : Int32 → HI → HL → Prop) : Prop :=
  wpM_on (0 : Int32) hi hl (fun r1 hi2 hl3 =>
    i01 r1 ∧
    Φ r1 hi2 hl3)
def wbM_bitsA_65 (hi : HI) (hl : HL) (Φ : Int32 → HI → HL → Prop) : Prop :=
  wpM_on (1 : Int32) hi hl (fun r1 hi2 hl3 =>
    i01 r1 ∧
    Φ r1 hi2 hl3)
def wbM_bitsA_0 (v1 : Int32) (hi : HI) (hl : HL) (Φ : Int32 → HI → HL → Prop) : Prop :=
  wpM_nodeWord hi hl (fun r1 hi2 hl3 =>
    vp_in (hi2 0 6) 21 ∧
    vp_in ((u2 hi2 7 ((hi2 0 6).toNatClampNeg) r1) 0 6) 21 ∧
    (r1 < 0 →
      wbM_bitsA_69 (u2 (u2 hi2 7 ((hi2 0 6).toNatClampNeg) r1) 10 (((u2 hi2 7 ((hi2 0 6).toNatClampNeg) r1) 0 6).toNatClampNeg) (vp_nar .boolean ((u2 hi2 7 ((hi2 0 6).toNatClampNeg) r1) 0 20))) hl3 Φ) ∧
    (¬ (r1 < 0) →
      vp_in r1 21 ∧
      wpM_isBits ((u2 (u2 hi2 7 ((hi2 0 6).toNatClampNeg) r1) 10 (((u2 hi2 7 ((hi2 0 6).toNatClampNeg) r1) 0 6).toNatClampNeg) (vp_nar .boolean ((u2 hi2 7 ((hi2 0 6).toNatClampNeg) r1) 0 20))) 6 (r1.toNatClampNeg)) (u2 (u2 hi2 7 ((hi2 0 6).toNatClampNeg) r1) 10 (((u2 hi2 7 ((hi2 0 6).toNatClampNeg) r1) 0 6).toNatClampNeg) (vp_nar .boolean ((u2 hi2 7 ((hi2 0 6).toNatClampNeg) r1) 0 20))) hl3 (fun r7 hi8 hl9 =>
        (r7 = 0 →
          wbM_bitsA_69 hi8 hl9 Φ) ∧
        (¬ (r7 = 0) →
          (v1 = 0 →
            wbM_bitsA_65 hi8 hl9 Φ) ∧
          (¬ (v1 = 0) →
            vp_in r1 21 ∧
            vp_in (hi8 6 (r1.toNatClampNeg)) 21 ∧
            ((hi8 16 ((hi8 6 (r1.toNatClampNeg)).toNatClampNeg)) = v1 →
              wbM_bitsA_65 hi8 hl9 Φ) ∧
            (¬ ((hi8 16 ((hi8 6 (r1.toNatClampNeg)).toNatClampNeg)) = v1) →
              wbM_bitsA_69 hi8 hl9 Φ))))))
def wpM_bitsA (v1 : Int32) (hi : HI) (hl : HL) (Φ : Int32 → HI → HL → Prop) : Prop :=
  wbM_bitsA_0 v1 hi hl Φ
def wbM_bitsB_65 (hi : HI) (hl : HL) (Φ : Int32 → HI → HL → Prop) : Prop :=
  wpM_on (0 : Int32) hi hl (fun r1 hi2 hl3 =>
    i01 r1 ∧
    Φ r1 hi2 hl3)
def wbM_bitsB_0 (v1 : Int32) (hi : HI) (hl : HL) (Φ : Int32 → HI → HL → Prop) : Prop :=
  wpM_nodeWord hi hl (fun r1 hi2 hl3 =>
    vp_in (hi2 0 6) 21 ∧
    vp_in ((u2 hi2 8 ((hi2 0 6).toNatClampNeg) r1) 0 6) 21 ∧
    (r1 < 0 →
      wbM_bitsB_65 (u2 (u2 hi2 8 ((hi2 0 6).toNatClampNeg) r1) 11 (((u2 hi2 8 ((hi2 0 6).toNatClampNeg) r1) 0 6).toNatClampNeg) (vp_nar .boolean ((u2 hi2 8 ((hi2 0 6).toNatClampNeg) r1) 0 20))) hl3 Φ) ∧
    (¬ (r1 < 0) →
      vp_in r1 21 ∧
      wpM_isBits ((u2 (u2 hi2 8 ((hi2 0 6).toNatClampNeg) r1) 11 (((u2 hi2 8 ((hi2 0 6).toNatClampNeg) r1) 0 6).toNatClampNeg) (vp_nar .boolean ((u2 hi2 8 ((hi2 0 6).toNatClampNeg) r1) 0 20))) 6 (r1.toNatClampNeg)) (u2 (u2 hi2 8 ((hi2 0 6).toNatClampNeg) r1) 11 (((u2 hi2 8 ((hi2 0 6).toNatClampNeg) r1) 0 6).toNatClampNeg) (vp_nar .boolean ((u2 hi2 8 ((hi2 0 6).toNatClampNeg) r1) 0 20))) hl3 (fun r7 hi8 hl9 =>
        (r7 = 0 →
          wbM_bitsB_65 hi8 hl9 Φ) ∧
        (¬ (r7 = 0) →
          vp_in r1 21 ∧
          vp_in (hi8 6 (r1.toNatClampNeg)) 21 ∧
          ((hi8 16 ((hi8 6 (r1.toNatClampNeg)).toNatClampNeg)) = v1 →
            wpM_on (1 : Int32) hi8 hl9 (fun r12 hi13 hl14 =>
              i01 r12 ∧
              Φ r12 hi13 hl14)) ∧
          (¬ ((hi8 16 ((hi8 6 (r1.toNatClampNeg)).toNatClampNeg)) = v1) →
            wbM_bitsB_65 hi8 hl9 Φ)))))
def wpM_bitsB (v1 : Int32) (hi : HI) (hl : HL) (Φ : Int32 → HI → HL → Prop) : Prop :=
  wbM_bitsB_0 v1 hi hl Φ
def wbM_readSort_191 (hi : HI) (hl : HL) (Φ : Int32 → HI → HL → Prop) : Prop :=
  wpM_on (0 : Int32) hi hl (fun r1 hi2 hl3 =>
    i01 r1 ∧
    Φ r1 hi2 hl3)
def wbM_readSort_171 (v5 : Int32) (q1 : Int32) (q2 : Int32) (hi : HI) (hl : HL) (Φ : Int32 → HI → HL → Prop) : Prop :=
  vp_in q1 21 ∧
  (v5 < 0 →
    wbM_readSort_191 (u2 hi 16 (q1.toNatClampNeg) q2) hl Φ) ∧
  (¬ (v5 < 0) →
    wpM_isBits v5 (u2 hi 16 (q1.toNatClampNeg) q2) hl (fun r2 hi3 hl4 =>
      (r2 = 0 →
        wbM_readSort_191 hi3 hl4 Φ) ∧
      (¬ (r2 = 0) →
        wpM_on (1 : Int32) hi3 hl4 (fun r5 hi6 hl7 =>
          i01 r5 ∧
          Φ r5 hi6 hl7))))
def wbM_readSort_133 (q1 : Int32) (hi : HI) (hl : HL) (Φ : Int32 → HI → HL → Prop) : Prop :=
  wpM_on q1 hi hl (fun r1 hi2 hl3 =>
    (r1 = 0 →
      i01 (0 : Int32) ∧
      Φ (0 : Int32) hi2 hl3) ∧
    (¬ (r1 = 0) →
      wpM_sortWord hi2 hl3 (fun r4 hi5 hl6 =>
        (0 ≤ r4 →
          vp_in r4 21 ∧
          wbM_readSort_171 r4 (hi5 0 6) (hi5 16 (r4.toNatClampNeg)) hi5 hl6 Φ) ∧
        (¬ (0 ≤ r4) →
          wbM_readSort_171 r4 (hi5 0 6) (0 : Int32) hi5 hl6 Φ))))
def wbM_readSort_132 (hi : HI) (hl : HL) (Φ : Int32 → HI → HL → Prop) : Prop :=
  wbM_readSort_133 (0 : Int32) hi hl Φ
def wbM_readSort_41 (v3 : Int32) (q1 : Int32) (hi : HI) (hl : HL) (Φ : Int32 → HI → HL → Prop) : Prop :=
  wpM_on q1 hi hl (fun r1 hi2 hl3 =>
    (r1 = 0 →
      i01 (0 : Int32) ∧
      Φ (0 : Int32) hi2 hl3) ∧
    (¬ (r1 = 0) →
      vp_in (hi2 0 6) 21 ∧
      (v3 = 0 →
        wpM_number ((u2 hi2 15 ((hi2 0 6).toNatClampNeg) (vp_nar .boolean v3)) 0 5) (u2 hi2 15 ((hi2 0 6).toNatClampNeg) (vp_nar .boolean v3)) hl3 (fun r12 hi13 hl14 =>
          vp_in (hi13 0 6) 21 ∧
          wpM_in r12 (1 : Int32) (3 : Int32) (u2 hi13 16 ((hi13 0 6).toNatClampNeg) r12) hl14 (fun r16 hi17 hl18 =>
            wpM_on r16 hi17 hl18 (fun r19 hi20 hl21 =>
              i01 r19 ∧
              Φ r19 hi20 hl21)))) ∧
      (¬ (v3 = 0) →
        wpM_sortWord (u2 hi2 15 ((hi2 0 6).toNatClampNeg) (vp_nar .boolean v3)) hl3 (fun r5 hi6 hl7 =>
          (r5 < 0 →
            wbM_readSort_132 hi6 hl7 Φ) ∧
          (¬ (r5 < 0) →
            wpM_isBits r5 hi6 hl7 (fun r8 hi9 hl10 =>
              (r8 = 0 →
                wbM_readSort_132 hi9 hl10 Φ) ∧
              (¬ (r8 = 0) →
                vp_in r5 21 ∧
                ((hi9 16 (r5.toNatClampNeg)) = (1 : Int32) →
                  wbM_readSort_133 (1 : Int32) hi9 hl10 Φ) ∧
                (¬ ((hi9 16 (r5.toNatClampNeg)) = (1 : Int32)) →
                  wbM_readSort_132 hi9 hl10 Φ))))))))
def wbM_readSort_36 (v3 : Int32) (hi : HI) (hl : HL) (Φ : Int32 → HI → HL → Prop) : Prop :=
  wbM_readSort_41 v3 (1 : Int32) hi hl Φ
def wbM_readSort_22 (v1 : Int64) (q0 : Int32) (hi : HI) (hl : HL) (Φ : Int32 → HI → HL → Prop) : Prop :=
  (q0 = 0 →
    ((lg_cmp v1 (77224099 : Int64)) = 0 →
      wbM_readSort_36 q0 hi hl Φ) ∧
    (¬ ((lg_cmp v1 (77224099 : Int64)) = 0) →
      wbM_readSort_41 q0 (0 : Int32) hi hl Φ)) ∧
  (¬ (q0 = 0) →
    wbM_readSort_36 q0 hi hl Φ)
def wbM_readSort_0 (hi : HI) (hl : HL) (Φ : Int32 → HI → HL → Prop) : Prop :=
  wpM_letters (hi 0 5) hi hl (fun r1 hi2 hl3 =>
    ((lg_cmp r1 (1656889 : Int64)) = 0 →
      wbM_readSort_22 r1 (1 : Int32) hi2 hl3 Φ) ∧
    (¬ ((lg_cmp r1 (1656889 : Int64)) = 0) →
      wbM_readSort_22 r1 (0 : Int32) hi2 hl3 Φ))
def wpM_readSort (hi : HI) (hl : HL) (Φ : Int32 → HI → HL → Prop) : Prop :=
  wbM_readSort_0 hi hl Φ
def wbM_total_38 (k4 : (Int32 → Int32 → Int32 → HI → HL → Prop)) (v1 : Int32) (v3 : Int32) (q0 : Int32) (hi : HI) (hl : HL) (Φ : Int32 → HI → HL → Prop) : Prop :=
  k4 v1 q0 (v3 + Int32.ofInt (1)) hi hl
def wbM_total_4 : Nat → Int32 → Int32 → Int32 → HI → HL → (Int32 → HI → HL → Prop) → Prop
  | 0, _, _, _, _, _, _ => False
  | n + 1, v1, v2, v3, hi, hl, Φ =>
    ((hi 0 6) ≤ v3 →
      Φ v2 hi hl) ∧
    (¬ ((hi 0 6) ≤ v3) →
      vp_in v3 21 ∧
      ((hi 5 (v3.toNatClampNeg)) = v1 →
        vp_in v3 21 ∧
        wpM_bits (hi 6 (v3.toNatClampNeg)) hi hl (fun r3 hi4 hl5 =>
          wbM_total_38 (fun v1 v2 v3 hi hl => wbM_total_4 n v1 v2 v3 hi hl Φ) v1 v3 (v2 + r3) hi4 hl5 Φ)) ∧
      (¬ ((hi 5 (v3.toNatClampNeg)) = v1) →
        wbM_total_38 (fun v1 v2 v3 hi hl => wbM_total_4 n v1 v2 v3 hi hl Φ) v1 v3 v2 hi hl Φ))
def wbM_total_0 (v1 : Int32) (hi : HI) (hl : HL) (Φ : Int32 → HI → HL → Prop) : Prop :=
  (∃ fu, wbM_total_4 fu v1 (0 : Int32) (0 : Int32) hi hl Φ)
def wpM_total (v1 : Int32) (hi : HI) (hl : HL) (Φ : Int32 → HI → HL → Prop) : Prop :=
  wbM_total_0 v1 hi hl Φ
def wbM_readState_62 (hi : HI) (hl : HL) (Φ : Int32 → HI → HL → Prop) : Prop :=
  wpM_on (0 : Int32) hi hl (fun r1 hi2 hl3 =>
    i01 r1 ∧
    Φ r1 hi2 hl3)
def wbM_readState_55 (q1 : Int32) (q2 : Int32) (hi : HI) (hl : HL) (Φ : Int32 → HI → HL → Prop) : Prop :=
  (q2 < q1 →
    wbM_readState_62 hi hl Φ) ∧
  (¬ (q2 < q1) →
    wpM_on (1 : Int32) hi hl (fun r1 hi2 hl3 =>
      i01 r1 ∧
      Φ r1 hi2 hl3))
def wbM_readState_33 (v1 : Int32) (v2 : Int32) (hi : HI) (hl : HL) (Φ : Int32 → HI → HL → Prop) : Prop :=
  wpM_total v1 hi hl (fun r1 hi2 hl3 =>
    wpM_bits v2 hi2 hl3 (fun r4 hi5 hl6 =>
      (v1 = (2 : Int32) →
        wbM_readState_55 (r1 + r4) (6 : Int32) hi5 hl6 Φ) ∧
      (¬ (v1 = (2 : Int32)) →
        wbM_readState_55 (r1 + r4) (2 : Int32) hi5 hl6 Φ)))
def wbM_readState_0 (v1 : Int32) (hi : HI) (hl : HL) (Φ : Int32 → HI → HL → Prop) : Prop :=
  wpM_sortWord hi hl (fun r1 hi2 hl3 =>
    vp_in (hi2 0 6) 21 ∧
    (r1 < 0 →
      wbM_readState_62 (u2 hi2 6 ((hi2 0 6).toNatClampNeg) r1) hl3 Φ) ∧
    (¬ (r1 < 0) →
      (v1 = (2 : Int32) →
        wbM_readState_33 v1 r1 (u2 hi2 6 ((hi2 0 6).toNatClampNeg) r1) hl3 Φ) ∧
      (¬ (v1 = (2 : Int32)) →
        wpM_isBits r1 (u2 hi2 6 ((hi2 0 6).toNatClampNeg) r1) hl3 (fun r5 hi6 hl7 =>
          (r5 = 0 →
            wbM_readState_62 hi6 hl7 Φ) ∧
          (¬ (r5 = 0) →
            wbM_readState_33 v1 r1 hi6 hl7 Φ)))))
def wpM_readState (v1 : Int32) (hi : HI) (hl : HL) (Φ : Int32 → HI → HL → Prop) : Prop :=
  wbM_readState_0 v1 hi hl Φ
def wbM_seenFree_0 (v1 : Int32) (hi : HI) (hl : HL) (Φ : Int32 → HI → HL → Prop) : Prop :=
  vp_in v1 21 ∧
  ((hi 18 (v1.toNatClampNeg)) = (1 : Int32) →
    i01 (1 : Int32) ∧
    Φ (1 : Int32) hi hl) ∧
  (¬ ((hi 18 (v1.toNatClampNeg)) = (1 : Int32)) →
    i01 (0 : Int32) ∧
    Φ (0 : Int32) hi hl)
def wpM_seenFree (v1 : Int32) (hi : HI) (hl : HL) (Φ : Int32 → HI → HL → Prop) : Prop :=
  wbM_seenFree_0 v1 hi hl Φ
def wbM_fixed_196 (k16 : (Int32 → Int32 → Int32 → HI → HL → Prop)) (v1 : Int32) (v3 : Int32) (q0 : Int32) (hi : HI) (hl : HL) (Φ : Int32 → HI → HL → Prop) : Prop :=
  k16 v1 q0 (v3 + Int32.ofInt (1)) hi hl
def wbM_fixed_176 (k16 : (Int32 → Int32 → Int32 → HI → HL → Prop)) (v1 : Int32) (v2 : Int32) (v3 : Int32) (v4 : Int32) (q1 : Int32) (q2 : Int32) (hi : HI) (hl : HL) (Φ : Int32 → HI → HL → Prop) : Prop :=
  vp_in q1 21 ∧
  (v3 = v1 →
    (v4 = 0 →
      wbM_fixed_196 k16 v1 v3 (1 : Int32) (u2 hi 18 (q1.toNatClampNeg) q2) hl Φ) ∧
    (¬ (v4 = 0) →
      wbM_fixed_196 k16 v1 v3 (0 : Int32) (u2 hi 18 (q1.toNatClampNeg) q2) hl Φ)) ∧
  (¬ (v3 = v1) →
    wbM_fixed_196 k16 v1 v3 v2 (u2 hi 18 (q1.toNatClampNeg) q2) hl Φ)
def wbM_fixed_159 (k16 : (Int32 → Int32 → Int32 → HI → HL → Prop)) (v1 : Int32) (v2 : Int32) (v3 : Int32) (q0 : Int32) (hi : HI) (hl : HL) (Φ : Int32 → HI → HL → Prop) : Prop :=
  (q0 = 0 →
    wbM_fixed_176 k16 v1 v2 v3 q0 v3 (0 : Int32) hi hl Φ) ∧
  (¬ (q0 = 0) →
    wbM_fixed_176 k16 v1 v2 v3 q0 v3 (1 : Int32) hi hl Φ)
def wbM_fixed_154 (k16 : (Int32 → Int32 → Int32 → HI → HL → Prop)) (v1 : Int32) (v2 : Int32) (v3 : Int32) (hi : HI) (hl : HL) (Φ : Int32 → HI → HL → Prop) : Prop :=
  wbM_fixed_159 k16 v1 v2 v3 (1 : Int32) hi hl Φ
def wbM_fixed_158 (k16 : (Int32 → Int32 → Int32 → HI → HL → Prop)) (v1 : Int32) (v2 : Int32) (v3 : Int32) (hi : HI) (hl : HL) (Φ : Int32 → HI → HL → Prop) : Prop :=
  wbM_fixed_159 k16 v1 v2 v3 (0 : Int32) hi hl Φ
def wbM_fixed_132 (k16 : (Int32 → Int32 → Int32 → HI → HL → Prop)) (v1 : Int32) (v2 : Int32) (v3 : Int32) (hi : HI) (hl : HL) (Φ : Int32 → HI → HL → Prop) : Prop :=
  vp_in v3 21 ∧
  ((hi 9 (v3.toNatClampNeg)) < 0 →
    wbM_fixed_158 k16 v1 v2 v3 hi hl Φ) ∧
  (¬ ((hi 9 (v3.toNatClampNeg)) < 0) →
    vp_in v3 21 ∧
    wpM_seenFree (hi 9 (v3.toNatClampNeg)) hi hl (fun r3 hi4 hl5 =>
      (r3 = 0 →
        wbM_fixed_158 k16 v1 v2 v3 hi4 hl5 Φ) ∧
      (¬ (r3 = 0) →
        wbM_fixed_154 k16 v1 v2 v3 hi4 hl5 Φ)))
def wbM_fixed_110 (k16 : (Int32 → Int32 → Int32 → HI → HL → Prop)) (v1 : Int32) (v2 : Int32) (v3 : Int32) (hi : HI) (hl : HL) (Φ : Int32 → HI → HL → Prop) : Prop :=
  vp_in v3 21 ∧
  ((hi 8 (v3.toNatClampNeg)) < 0 →
    wbM_fixed_132 k16 v1 v2 v3 hi hl Φ) ∧
  (¬ ((hi 8 (v3.toNatClampNeg)) < 0) →
    vp_in v3 21 ∧
    wpM_seenFree (hi 8 (v3.toNatClampNeg)) hi hl (fun r3 hi4 hl5 =>
      (r3 = 0 →
        wbM_fixed_132 k16 v1 v2 v3 hi4 hl5 Φ) ∧
      (¬ (r3 = 0) →
        wbM_fixed_154 k16 v1 v2 v3 hi4 hl5 Φ)))
def wbM_fixed_76 (k16 : (Int32 → Int32 → Int32 → HI → HL → Prop)) (v1 : Int32) (v2 : Int32) (v3 : Int32) (v4 : Int32) (q0 : Int32) (hi : HI) (hl : HL) (Φ : Int32 → HI → HL → Prop) : Prop :=
  (v4 = 0 →
    (q0 = 0 →
      wbM_fixed_158 k16 v1 v2 v3 hi hl Φ) ∧
    (¬ (q0 = 0) →
      vp_in v3 21 ∧
      ((hi 7 (v3.toNatClampNeg)) < 0 →
        wbM_fixed_110 k16 v1 v2 v3 hi hl Φ) ∧
      (¬ ((hi 7 (v3.toNatClampNeg)) < 0) →
        vp_in v3 21 ∧
        wpM_seenFree (hi 7 (v3.toNatClampNeg)) hi hl (fun r3 hi4 hl5 =>
          (r3 = 0 →
            wbM_fixed_110 k16 v1 v2 v3 hi4 hl5 Φ) ∧
          (¬ (r3 = 0) →
            wbM_fixed_154 k16 v1 v2 v3 hi4 hl5 Φ))))) ∧
  (¬ (v4 = 0) →
    wbM_fixed_154 k16 v1 v2 v3 hi hl Φ)
def wbM_fixed_75 (k16 : (Int32 → Int32 → Int32 → HI → HL → Prop)) (v1 : Int32) (v2 : Int32) (v3 : Int32) (v4 : Int32) (hi : HI) (hl : HL) (Φ : Int32 → HI → HL → Prop) : Prop :=
  wbM_fixed_76 k16 v1 v2 v3 v4 (0 : Int32) hi hl Φ
def wbM_fixed_46 (k16 : (Int32 → Int32 → Int32 → HI → HL → Prop)) (v1 : Int32) (v2 : Int32) (v3 : Int32) (q0 : Int32) (hi : HI) (hl : HL) (Φ : Int32 → HI → HL → Prop) : Prop :=
  wpM_isNode v3 hi hl (fun r1 hi2 hl3 =>
    (r1 = 0 →
      wbM_fixed_75 k16 v1 v2 v3 q0 hi2 hl3 Φ) ∧
    (¬ (r1 = 0) →
      vp_in v3 21 ∧
      ((hi2 5 (v3.toNatClampNeg)) = (3 : Int32) →
        wbM_fixed_75 k16 v1 v2 v3 q0 hi2 hl3 Φ) ∧
      (¬ ((hi2 5 (v3.toNatClampNeg)) = (3 : Int32)) →
        (q0 = 0 →
          wbM_fixed_76 k16 v1 v2 v3 q0 (1 : Int32) hi2 hl3 Φ) ∧
        (¬ (q0 = 0) →
          wbM_fixed_75 k16 v1 v2 v3 q0 hi2 hl3 Φ))))
def wbM_fixed_41 (k16 : (Int32 → Int32 → Int32 → HI → HL → Prop)) (v1 : Int32) (v2 : Int32) (v3 : Int32) (hi : HI) (hl : HL) (Φ : Int32 → HI → HL → Prop) : Prop :=
  wbM_fixed_46 k16 v1 v2 v3 (1 : Int32) hi hl Φ
def wbM_fixed_16 : Nat → Int32 → Int32 → Int32 → HI → HL → (Int32 → HI → HL → Prop) → Prop
  | 0, _, _, _, _, _, _ => False
  | n + 1, v1, v2, v3, hi, hl, Φ =>
    (v1 < v3 →
      i01 v2 ∧
      Φ v2 hi hl) ∧
    (¬ (v1 < v3) →
      vp_in v3 21 ∧
      ((hi 5 (v3.toNatClampNeg)) = (1 : Int32) →
        wbM_fixed_41 (fun v1 v2 v3 hi hl => wbM_fixed_16 n v1 v2 v3 hi hl Φ) v1 v2 v3 hi hl Φ) ∧
      (¬ ((hi 5 (v3.toNatClampNeg)) = (1 : Int32)) →
        vp_in v3 21 ∧
        ((hi 5 (v3.toNatClampNeg)) = (2 : Int32) →
          wbM_fixed_41 (fun v1 v2 v3 hi hl => wbM_fixed_16 n v1 v2 v3 hi hl Φ) v1 v2 v3 hi hl Φ) ∧
        (¬ ((hi 5 (v3.toNatClampNeg)) = (2 : Int32)) →
          wbM_fixed_46 (fun v1 v2 v3 hi hl => wbM_fixed_16 n v1 v2 v3 hi hl Φ) v1 v2 v3 (0 : Int32) hi hl Φ)))
def wbM_fixed_0 (v1 : Int32) (hi : HI) (hl : HL) (Φ : Int32 → HI → HL → Prop) : Prop :=
  vp_in v1 21 ∧
  ((hi 5 (v1.toNatClampNeg)) = (3 : Int32) →
    i01 (1 : Int32) ∧
    Φ (1 : Int32) hi hl) ∧
  (¬ ((hi 5 (v1.toNatClampNeg)) = (3 : Int32)) →
    (∃ fu, wbM_fixed_16 fu v1 (1 : Int32) (0 : Int32) hi hl Φ))
def wpM_fixed (v1 : Int32) (hi : HI) (hl : HL) (Φ : Int32 → HI → HL → Prop) : Prop :=
  wbM_fixed_0 v1 hi hl Φ
def wbM_has_45 (k5 : (Int32 → Int32 → Int32 → Int32 → HI → HL → Prop)) (v1 : Int32) (v2 : Int32) (v4 : Int32) (q0 : Int32) (hi : HI) (hl : HL) (Φ : Int32 → HI → HL → Prop) : Prop :=
  k5 v1 v2 q0 (v4 + Int32.ofInt (1)) hi hl
def wbM_has_40 (k5 : (Int32 → Int32 → Int32 → Int32 → HI → HL → Prop)) (v1 : Int32) (v2 : Int32) (v4 : Int32) (hi : HI) (hl : HL) (Φ : Int32 → HI → HL → Prop) : Prop :=
  wbM_has_45 k5 v1 v2 v4 (1 : Int32) hi hl Φ
def wbM_has_44 (k5 : (Int32 → Int32 → Int32 → Int32 → HI → HL → Prop)) (v1 : Int32) (v2 : Int32) (v4 : Int32) (hi : HI) (hl : HL) (Φ : Int32 → HI → HL → Prop) : Prop :=
  wbM_has_45 k5 v1 v2 v4 (0 : Int32) hi hl Φ
def wbM_has_5 : Nat → Int32 → Int32 → Int32 → Int32 → HI → HL → (Int32 → HI → HL → Prop) → Prop
  | 0, _, _, _, _, _, _, _ => False
  | n + 1, v1, v2, v3, v4, hi, hl, Φ =>
    ((hi 0 6) ≤ v4 →
      i01 v3 ∧
      Φ v3 hi hl) ∧
    (¬ ((hi 0 6) ≤ v4) →
      (v3 = 0 →
        vp_in v4 21 ∧
        ((hi 5 (v4.toNatClampNeg)) = v1 →
          vp_in v4 21 ∧
          ((hi 7 (v4.toNatClampNeg)) = v2 →
            wbM_has_40 (fun v1 v2 v3 v4 hi hl => wbM_has_5 n v1 v2 v3 v4 hi hl Φ) v1 v2 v4 hi hl Φ) ∧
          (¬ ((hi 7 (v4.toNatClampNeg)) = v2) →
            wbM_has_44 (fun v1 v2 v3 v4 hi hl => wbM_has_5 n v1 v2 v3 v4 hi hl Φ) v1 v2 v4 hi hl Φ)) ∧
        (¬ ((hi 5 (v4.toNatClampNeg)) = v1) →
          wbM_has_44 (fun v1 v2 v3 v4 hi hl => wbM_has_5 n v1 v2 v3 v4 hi hl Φ) v1 v2 v4 hi hl Φ)) ∧
      (¬ (v3 = 0) →
        wbM_has_40 (fun v1 v2 v3 v4 hi hl => wbM_has_5 n v1 v2 v3 v4 hi hl Φ) v1 v2 v4 hi hl Φ))
def wbM_has_0 (v1 : Int32) (v2 : Int32) (hi : HI) (hl : HL) (Φ : Int32 → HI → HL → Prop) : Prop :=
  (∃ fu, wbM_has_5 fu v1 v2 (0 : Int32) (0 : Int32) hi hl Φ)
def wpM_has (v1 : Int32) (v2 : Int32) (hi : HI) (hl : HL) (Φ : Int32 → HI → HL → Prop) : Prop :=
  wbM_has_0 v1 v2 hi hl Φ
def wbM_readInit_166 (hi : HI) (hl : HL) (Φ : Int32 → HI → HL → Prop) : Prop :=
  wpM_on (0 : Int32) hi hl (fun r1 hi2 hl3 =>
    i01 r1 ∧
    Φ r1 hi2 hl3)
def wbM_readInit_162 (hi : HI) (hl : HL) (Φ : Int32 → HI → HL → Prop) : Prop :=
  wpM_on (1 : Int32) hi hl (fun r1 hi2 hl3 =>
    i01 r1 ∧
    Φ r1 hi2 hl3)
def wbM_readInit_88 (v1 : Int32) (v2 : Int32) (q1 : Int32) (hi : HI) (hl : HL) (Φ : Int32 → HI → HL → Prop) : Prop :=
  wpM_on q1 hi hl (fun r1 hi2 hl3 =>
    (r1 = 0 →
      i01 (0 : Int32) ∧
      Φ (0 : Int32) hi2 hl3) ∧
    (¬ (r1 = 0) →
      wpM_nodeWord hi2 hl3 (fun r4 hi5 hl6 =>
        vp_in (hi5 0 6) 21 ∧
        vp_in ((u2 hi5 8 ((hi5 0 6).toNatClampNeg) r4) 0 6) 21 ∧
        (r4 < 0 →
          wbM_readInit_166 (u2 (u2 hi5 8 ((hi5 0 6).toNatClampNeg) r4) 11 (((u2 hi5 8 ((hi5 0 6).toNatClampNeg) r4) 0 6).toNatClampNeg) (vp_nar .boolean ((u2 hi5 8 ((hi5 0 6).toNatClampNeg) r4) 0 20))) hl6 Φ) ∧
        (¬ (r4 < 0) →
          vp_in r4 21 ∧
          wpM_sameSort ((u2 (u2 hi5 8 ((hi5 0 6).toNatClampNeg) r4) 11 (((u2 hi5 8 ((hi5 0 6).toNatClampNeg) r4) 0 6).toNatClampNeg) (vp_nar .boolean ((u2 hi5 8 ((hi5 0 6).toNatClampNeg) r4) 0 20))) 6 (r4.toNatClampNeg)) v2 (u2 (u2 hi5 8 ((hi5 0 6).toNatClampNeg) r4) 11 (((u2 hi5 8 ((hi5 0 6).toNatClampNeg) r4) 0 6).toNatClampNeg) (vp_nar .boolean ((u2 hi5 8 ((hi5 0 6).toNatClampNeg) r4) 0 20))) hl6 (fun r10 hi11 hl12 =>
            (r10 = 0 →
              wbM_readInit_166 hi11 hl12 Φ) ∧
            (¬ (r10 = 0) →
              (v1 = (28 : Int32) →
                wbM_readInit_162 hi11 hl12 Φ) ∧
              (¬ (v1 = (28 : Int32)) →
                wpM_fixed r4 hi11 hl12 (fun r13 hi14 hl15 =>
                  (r13 = 0 →
                    wbM_readInit_166 hi14 hl15 Φ) ∧
                  (¬ (r13 = 0) →
                    wbM_readInit_162 hi14 hl15 Φ)))))))))
def wbM_readInit_87 (v1 : Int32) (v2 : Int32) (hi : HI) (hl : HL) (Φ : Int32 → HI → HL → Prop) : Prop :=
  wbM_readInit_88 v1 v2 (0 : Int32) hi hl Φ
def wbM_readInit_15 (v1 : Int32) (v2 : Int32) (q1 : Int32) (hi : HI) (hl : HL) (Φ : Int32 → HI → HL → Prop) : Prop :=
  wpM_on q1 hi hl (fun r1 hi2 hl3 =>
    (r1 = 0 →
      i01 (0 : Int32) ∧
      Φ (0 : Int32) hi2 hl3) ∧
    (¬ (r1 = 0) →
      wpM_nodeWord hi2 hl3 (fun r4 hi5 hl6 =>
        vp_in (hi5 0 6) 21 ∧
        (r4 < 0 →
          wbM_readInit_87 v1 v2 (u2 hi5 7 ((hi5 0 6).toNatClampNeg) r4) hl6 Φ) ∧
        (¬ (r4 < 0) →
          (((u2 hi5 7 ((hi5 0 6).toNatClampNeg) r4) 0 20) = 0 →
            vp_in r4 21 ∧
            (((u2 hi5 7 ((hi5 0 6).toNatClampNeg) r4) 5 (r4.toNatClampNeg)) = (2 : Int32) →
              vp_in r4 21 ∧
              wpM_sameSort ((u2 hi5 7 ((hi5 0 6).toNatClampNeg) r4) 6 (r4.toNatClampNeg)) v2 (u2 hi5 7 ((hi5 0 6).toNatClampNeg) r4) hl6 (fun r10 hi11 hl12 =>
                (r10 = 0 →
                  wbM_readInit_87 v1 v2 hi11 hl12 Φ) ∧
                (¬ (r10 = 0) →
                  wpM_has v1 r4 hi11 hl12 (fun r13 hi14 hl15 =>
                    (r13 = 0 →
                      wbM_readInit_88 v1 v2 (1 : Int32) hi14 hl15 Φ) ∧
                    (¬ (r13 = 0) →
                      wbM_readInit_87 v1 v2 hi14 hl15 Φ))))) ∧
            (¬ (((u2 hi5 7 ((hi5 0 6).toNatClampNeg) r4) 5 (r4.toNatClampNeg)) = (2 : Int32)) →
              wbM_readInit_87 v1 v2 (u2 hi5 7 ((hi5 0 6).toNatClampNeg) r4) hl6 Φ)) ∧
          (¬ (((u2 hi5 7 ((hi5 0 6).toNatClampNeg) r4) 0 20) = 0) →
            wbM_readInit_87 v1 v2 (u2 hi5 7 ((hi5 0 6).toNatClampNeg) r4) hl6 Φ)))))
def wbM_readInit_0 (v1 : Int32) (hi : HI) (hl : HL) (Φ : Int32 → HI → HL → Prop) : Prop :=
  wpM_sortWord hi hl (fun r1 hi2 hl3 =>
    (r1 < 0 →
      wbM_readInit_15 v1 r1 (0 : Int32) hi2 hl3 Φ) ∧
    (¬ (r1 < 0) →
      wbM_readInit_15 v1 r1 (1 : Int32) hi2 hl3 Φ))
def wpM_readInit (v1 : Int32) (hi : HI) (hl : HL) (Φ : Int32 → HI → HL → Prop) : Prop :=
  wbM_readInit_0 v1 hi hl Φ
def wbM_readSlice_128 (hi : HI) (hl : HL) (Φ : Int32 → HI → HL → Prop) : Prop :=
  wpM_on (0 : Int32) hi hl (fun r1 hi2 hl3 =>
    i01 r1 ∧
    Φ r1 hi2 hl3)
def wbM_readSlice_62 (q1 : Int32) (hi : HI) (hl : HL) (Φ : Int32 → HI → HL → Prop) : Prop :=
  wpM_on q1 hi hl (fun r1 hi2 hl3 =>
    (r1 = 0 →
      i01 (0 : Int32) ∧
      Φ (0 : Int32) hi2 hl3) ∧
    (¬ (r1 = 0) →
      wpM_number (hi2 0 5) hi2 hl3 (fun r4 hi5 hl6 =>
        vp_in (hi5 0 6) 21 ∧
        (r4 < 0 →
          wbM_readSlice_128 (u2 hi5 14 ((hi5 0 6).toNatClampNeg) r4) hl6 Φ) ∧
        (¬ (r4 < 0) →
          vp_in ((u2 hi5 14 ((hi5 0 6).toNatClampNeg) r4) 0 6) 21 ∧
          vp_in ((u2 hi5 14 ((hi5 0 6).toNatClampNeg) r4) 0 6) 21 ∧
          vp_in ((u2 hi5 14 ((hi5 0 6).toNatClampNeg) r4) 6 (((u2 hi5 14 ((hi5 0 6).toNatClampNeg) r4) 0 6).toNatClampNeg)) 21 ∧
          (((((u2 hi5 14 ((hi5 0 6).toNatClampNeg) r4) 13 (((u2 hi5 14 ((hi5 0 6).toNatClampNeg) r4) 0 6).toNatClampNeg)) - r4) + (1 : Int32)) = ((u2 hi5 14 ((hi5 0 6).toNatClampNeg) r4) 16 (((u2 hi5 14 ((hi5 0 6).toNatClampNeg) r4) 6 (((u2 hi5 14 ((hi5 0 6).toNatClampNeg) r4) 0 6).toNatClampNeg)).toNatClampNeg)) →
            wpM_on (1 : Int32) (u2 hi5 14 ((hi5 0 6).toNatClampNeg) r4) hl6 (fun r11 hi12 hl13 =>
              i01 r11 ∧
              Φ r11 hi12 hl13)) ∧
          (¬ (((((u2 hi5 14 ((hi5 0 6).toNatClampNeg) r4) 13 (((u2 hi5 14 ((hi5 0 6).toNatClampNeg) r4) 0 6).toNatClampNeg)) - r4) + (1 : Int32)) = ((u2 hi5 14 ((hi5 0 6).toNatClampNeg) r4) 16 (((u2 hi5 14 ((hi5 0 6).toNatClampNeg) r4) 6 (((u2 hi5 14 ((hi5 0 6).toNatClampNeg) r4) 0 6).toNatClampNeg)).toNatClampNeg))) →
            wbM_readSlice_128 (u2 hi5 14 ((hi5 0 6).toNatClampNeg) r4) hl6 Φ)))))
def wbM_readSlice_61 (hi : HI) (hl : HL) (Φ : Int32 → HI → HL → Prop) : Prop :=
  wbM_readSlice_62 (0 : Int32) hi hl Φ
def wbM_readSlice_0 (hi : HI) (hl : HL) (Φ : Int32 → HI → HL → Prop) : Prop :=
  wpM_bitsA (0 : Int32) hi hl (fun r1 hi2 hl3 =>
    (r1 = 0 →
      i01 (0 : Int32) ∧
      Φ (0 : Int32) hi2 hl3) ∧
    (¬ (r1 = 0) →
      wpM_number (hi2 0 5) hi2 hl3 (fun r4 hi5 hl6 =>
        vp_in (hi5 0 6) 21 ∧
        (r4 < 0 →
          wbM_readSlice_61 (u2 hi5 13 ((hi5 0 6).toNatClampNeg) r4) hl6 Φ) ∧
        (¬ (r4 < 0) →
          vp_in ((u2 hi5 13 ((hi5 0 6).toNatClampNeg) r4) 0 6) 21 ∧
          vp_in ((u2 hi5 13 ((hi5 0 6).toNatClampNeg) r4) 7 (((u2 hi5 13 ((hi5 0 6).toNatClampNeg) r4) 0 6).toNatClampNeg)) 21 ∧
          vp_in ((u2 hi5 13 ((hi5 0 6).toNatClampNeg) r4) 6 (((u2 hi5 13 ((hi5 0 6).toNatClampNeg) r4) 7 (((u2 hi5 13 ((hi5 0 6).toNatClampNeg) r4) 0 6).toNatClampNeg)).toNatClampNeg)) 21 ∧
          (((u2 hi5 13 ((hi5 0 6).toNatClampNeg) r4) 16 (((u2 hi5 13 ((hi5 0 6).toNatClampNeg) r4) 6 (((u2 hi5 13 ((hi5 0 6).toNatClampNeg) r4) 7 (((u2 hi5 13 ((hi5 0 6).toNatClampNeg) r4) 0 6).toNatClampNeg)).toNatClampNeg)).toNatClampNeg)) ≤ r4 →
            wbM_readSlice_61 (u2 hi5 13 ((hi5 0 6).toNatClampNeg) r4) hl6 Φ) ∧
          (¬ (((u2 hi5 13 ((hi5 0 6).toNatClampNeg) r4) 16 (((u2 hi5 13 ((hi5 0 6).toNatClampNeg) r4) 6 (((u2 hi5 13 ((hi5 0 6).toNatClampNeg) r4) 7 (((u2 hi5 13 ((hi5 0 6).toNatClampNeg) r4) 0 6).toNatClampNeg)).toNatClampNeg)).toNatClampNeg)) ≤ r4) →
            wbM_readSlice_62 (1 : Int32) (u2 hi5 13 ((hi5 0 6).toNatClampNeg) r4) hl6 Φ)))))
def wpM_readSlice (hi : HI) (hl : HL) (Φ : Int32 → HI → HL → Prop) : Prop :=
  wbM_readSlice_0 hi hl Φ
def wbM_readExtended_66 (hi : HI) (hl : HL) (Φ : Int32 → HI → HL → Prop) : Prop :=
  wpM_on (0 : Int32) hi hl (fun r1 hi2 hl3 =>
    i01 r1 ∧
    Φ r1 hi2 hl3)
def wbM_readExtended_0 (hi : HI) (hl : HL) (Φ : Int32 → HI → HL → Prop) : Prop :=
  wpM_bitsA (0 : Int32) hi hl (fun r1 hi2 hl3 =>
    (r1 = 0 →
      i01 (0 : Int32) ∧
      Φ (0 : Int32) hi2 hl3) ∧
    (¬ (r1 = 0) →
      wpM_number (hi2 0 5) hi2 hl3 (fun r4 hi5 hl6 =>
        (r4 < 0 →
          wbM_readExtended_66 hi5 hl6 Φ) ∧
        (¬ (r4 < 0) →
          vp_in (hi5 0 6) 21 ∧
          vp_in (hi5 7 ((hi5 0 6).toNatClampNeg)) 21 ∧
          vp_in (hi5 6 ((hi5 7 ((hi5 0 6).toNatClampNeg)).toNatClampNeg)) 21 ∧
          vp_in (hi5 0 6) 21 ∧
          vp_in (hi5 6 ((hi5 0 6).toNatClampNeg)) 21 ∧
          (((hi5 16 ((hi5 6 ((hi5 7 ((hi5 0 6).toNatClampNeg)).toNatClampNeg)).toNatClampNeg)) + r4) = (hi5 16 ((hi5 6 ((hi5 0 6).toNatClampNeg)).toNatClampNeg)) →
            wpM_on (1 : Int32) hi5 hl6 (fun r12 hi13 hl14 =>
              i01 r12 ∧
              Φ r12 hi13 hl14)) ∧
          (¬ (((hi5 16 ((hi5 6 ((hi5 7 ((hi5 0 6).toNatClampNeg)).toNatClampNeg)).toNatClampNeg)) + r4) = (hi5 16 ((hi5 6 ((hi5 0 6).toNatClampNeg)).toNatClampNeg))) →
            wbM_readExtended_66 hi5 hl6 Φ)))))
def wpM_readExtended (hi : HI) (hl : HL) (Φ : Int32 → HI → HL → Prop) : Prop :=
  wbM_readExtended_0 hi hl Φ
def wbM_readConcat_81 (v2 : Int32) (q1 : Int32) (hi : HI) (hl : HL) (Φ : Int32 → HI → HL → Prop) : Prop :=
  wpM_on q1 hi hl (fun r1 hi2 hl3 =>
    (r1 = 0 →
      i01 (0 : Int32) ∧
      Φ (0 : Int32) hi2 hl3) ∧
    (¬ (r1 = 0) →
      vp_in (hi2 0 6) 21 ∧
      vp_in (hi2 7 ((hi2 0 6).toNatClampNeg)) 21 ∧
      vp_in (hi2 6 ((hi2 7 ((hi2 0 6).toNatClampNeg)).toNatClampNeg)) 21 ∧
      wpM_bitsB (v2 - (hi2 16 ((hi2 6 ((hi2 7 ((hi2 0 6).toNatClampNeg)).toNatClampNeg)).toNatClampNeg))) hi2 hl3 (fun r7 hi8 hl9 =>
        i01 r7 ∧
        Φ r7 hi8 hl9)))
def wbM_readConcat_80 (v2 : Int32) (hi : HI) (hl : HL) (Φ : Int32 → HI → HL → Prop) : Prop :=
  wbM_readConcat_81 v2 (0 : Int32) hi hl Φ
def wbM_readConcat_0 (hi : HI) (hl : HL) (Φ : Int32 → HI → HL → Prop) : Prop :=
  wpM_nodeWord hi hl (fun r1 hi2 hl3 =>
    vp_in (hi2 0 6) 21 ∧
    vp_in ((u2 hi2 7 ((hi2 0 6).toNatClampNeg) r1) 0 6) 21 ∧
    vp_in ((u2 (u2 hi2 7 ((hi2 0 6).toNatClampNeg) r1) 10 (((u2 hi2 7 ((hi2 0 6).toNatClampNeg) r1) 0 6).toNatClampNeg) (vp_nar .boolean ((u2 hi2 7 ((hi2 0 6).toNatClampNeg) r1) 0 20))) 0 6) 21 ∧
    vp_in ((u2 (u2 hi2 7 ((hi2 0 6).toNatClampNeg) r1) 10 (((u2 hi2 7 ((hi2 0 6).toNatClampNeg) r1) 0 6).toNatClampNeg) (vp_nar .boolean ((u2 hi2 7 ((hi2 0 6).toNatClampNeg) r1) 0 20))) 6 (((u2 (u2 hi2 7 ((hi2 0 6).toNatClampNeg) r1) 10 (((u2 hi2 7 ((hi2 0 6).toNatClampNeg) r1) 0 6).toNatClampNeg) (vp_nar .boolean ((u2 hi2 7 ((hi2 0 6).toNatClampNeg) r1) 0 20))) 0 6).toNatClampNeg)) 21 ∧
    (r1 < 0 →
      wbM_readConcat_80 ((u2 (u2 hi2 7 ((hi2 0 6).toNatClampNeg) r1) 10 (((u2 hi2 7 ((hi2 0 6).toNatClampNeg) r1) 0 6).toNatClampNeg) (vp_nar .boolean ((u2 hi2 7 ((hi2 0 6).toNatClampNeg) r1) 0 20))) 16 (((u2 (u2 hi2 7 ((hi2 0 6).toNatClampNeg) r1) 10 (((u2 hi2 7 ((hi2 0 6).toNatClampNeg) r1) 0 6).toNatClampNeg) (vp_nar .boolean ((u2 hi2 7 ((hi2 0 6).toNatClampNeg) r1) 0 20))) 6 (((u2 (u2 hi2 7 ((hi2 0 6).toNatClampNeg) r1) 10 (((u2 hi2 7 ((hi2 0 6).toNatClampNeg) r1) 0 6).toNatClampNeg) (vp_nar .boolean ((u2 hi2 7 ((hi2 0 6).toNatClampNeg) r1) 0 20))) 0 6).toNatClampNeg)).toNatClampNeg)) (u2 (u2 hi2 7 ((hi2 0 6).toNatClampNeg) r1) 10 (((u2 hi2 7 ((hi2 0 6).toNatClampNeg) r1) 0 6).toNatClampNeg) (vp_nar .boolean ((u2 hi2 7 ((hi2 0 6).toNatClampNeg) r1) 0 20))) hl3 Φ) ∧
    (¬ (r1 < 0) →
      vp_in r1 21 ∧
      wpM_isBits ((u2 (u2 hi2 7 ((hi2 0 6).toNatClampNeg) r1) 10 (((u2 hi2 7 ((hi2 0 6).toNatClampNeg) r1) 0 6).toNatClampNeg) (vp_nar .boolean ((u2 hi2 7 ((hi2 0 6).toNatClampNeg) r1) 0 20))) 6 (r1.toNatClampNeg)) (u2 (u2 hi2 7 ((hi2 0 6).toNatClampNeg) r1) 10 (((u2 hi2 7 ((hi2 0 6).toNatClampNeg) r1) 0 6).toNatClampNeg) (vp_nar .boolean ((u2 hi2 7 ((hi2 0 6).toNatClampNeg) r1) 0 20))) hl3 (fun r9 hi10 hl11 =>
        (r9 = 0 →
          wbM_readConcat_80 ((u2 (u2 hi2 7 ((hi2 0 6).toNatClampNeg) r1) 10 (((u2 hi2 7 ((hi2 0 6).toNatClampNeg) r1) 0 6).toNatClampNeg) (vp_nar .boolean ((u2 hi2 7 ((hi2 0 6).toNatClampNeg) r1) 0 20))) 16 (((u2 (u2 hi2 7 ((hi2 0 6).toNatClampNeg) r1) 10 (((u2 hi2 7 ((hi2 0 6).toNatClampNeg) r1) 0 6).toNatClampNeg) (vp_nar .boolean ((u2 hi2 7 ((hi2 0 6).toNatClampNeg) r1) 0 20))) 6 (((u2 (u2 hi2 7 ((hi2 0 6).toNatClampNeg) r1) 10 (((u2 hi2 7 ((hi2 0 6).toNatClampNeg) r1) 0 6).toNatClampNeg) (vp_nar .boolean ((u2 hi2 7 ((hi2 0 6).toNatClampNeg) r1) 0 20))) 0 6).toNatClampNeg)).toNatClampNeg)) hi10 hl11 Φ) ∧
        (¬ (r9 = 0) →
          vp_in r1 21 ∧
          vp_in (hi10 6 (r1.toNatClampNeg)) 21 ∧
          (((u2 (u2 hi2 7 ((hi2 0 6).toNatClampNeg) r1) 10 (((u2 hi2 7 ((hi2 0 6).toNatClampNeg) r1) 0 6).toNatClampNeg) (vp_nar .boolean ((u2 hi2 7 ((hi2 0 6).toNatClampNeg) r1) 0 20))) 16 (((u2 (u2 hi2 7 ((hi2 0 6).toNatClampNeg) r1) 10 (((u2 hi2 7 ((hi2 0 6).toNatClampNeg) r1) 0 6).toNatClampNeg) (vp_nar .boolean ((u2 hi2 7 ((hi2 0 6).toNatClampNeg) r1) 0 20))) 6 (((u2 (u2 hi2 7 ((hi2 0 6).toNatClampNeg) r1) 10 (((u2 hi2 7 ((hi2 0 6).toNatClampNeg) r1) 0 6).toNatClampNeg) (vp_nar .boolean ((u2 hi2 7 ((hi2 0 6).toNatClampNeg) r1) 0 20))) 0 6).toNatClampNeg)).toNatClampNeg)) ≤ (hi10 16 ((hi10 6 (r1.toNatClampNeg)).toNatClampNeg)) →
            wbM_readConcat_80 ((u2 (u2 hi2 7 ((hi2 0 6).toNatClampNeg) r1) 10 (((u2 hi2 7 ((hi2 0 6).toNatClampNeg) r1) 0 6).toNatClampNeg) (vp_nar .boolean ((u2 hi2 7 ((hi2 0 6).toNatClampNeg) r1) 0 20))) 16 (((u2 (u2 hi2 7 ((hi2 0 6).toNatClampNeg) r1) 10 (((u2 hi2 7 ((hi2 0 6).toNatClampNeg) r1) 0 6).toNatClampNeg) (vp_nar .boolean ((u2 hi2 7 ((hi2 0 6).toNatClampNeg) r1) 0 20))) 6 (((u2 (u2 hi2 7 ((hi2 0 6).toNatClampNeg) r1) 10 (((u2 hi2 7 ((hi2 0 6).toNatClampNeg) r1) 0 6).toNatClampNeg) (vp_nar .boolean ((u2 hi2 7 ((hi2 0 6).toNatClampNeg) r1) 0 20))) 0 6).toNatClampNeg)).toNatClampNeg)) hi10 hl11 Φ) ∧
          (¬ (((u2 (u2 hi2 7 ((hi2 0 6).toNatClampNeg) r1) 10 (((u2 hi2 7 ((hi2 0 6).toNatClampNeg) r1) 0 6).toNatClampNeg) (vp_nar .boolean ((u2 hi2 7 ((hi2 0 6).toNatClampNeg) r1) 0 20))) 16 (((u2 (u2 hi2 7 ((hi2 0 6).toNatClampNeg) r1) 10 (((u2 hi2 7 ((hi2 0 6).toNatClampNeg) r1) 0 6).toNatClampNeg) (vp_nar .boolean ((u2 hi2 7 ((hi2 0 6).toNatClampNeg) r1) 0 20))) 6 (((u2 (u2 hi2 7 ((hi2 0 6).toNatClampNeg) r1) 10 (((u2 hi2 7 ((hi2 0 6).toNatClampNeg) r1) 0 6).toNatClampNeg) (vp_nar .boolean ((u2 hi2 7 ((hi2 0 6).toNatClampNeg) r1) 0 20))) 0 6).toNatClampNeg)).toNatClampNeg)) ≤ (hi10 16 ((hi10 6 (r1.toNatClampNeg)).toNatClampNeg))) →
            wbM_readConcat_81 ((u2 (u2 hi2 7 ((hi2 0 6).toNatClampNeg) r1) 10 (((u2 hi2 7 ((hi2 0 6).toNatClampNeg) r1) 0 6).toNatClampNeg) (vp_nar .boolean ((u2 hi2 7 ((hi2 0 6).toNatClampNeg) r1) 0 20))) 16 (((u2 (u2 hi2 7 ((hi2 0 6).toNatClampNeg) r1) 10 (((u2 hi2 7 ((hi2 0 6).toNatClampNeg) r1) 0 6).toNatClampNeg) (vp_nar .boolean ((u2 hi2 7 ((hi2 0 6).toNatClampNeg) r1) 0 20))) 6 (((u2 (u2 hi2 7 ((hi2 0 6).toNatClampNeg) r1) 10 (((u2 hi2 7 ((hi2 0 6).toNatClampNeg) r1) 0 6).toNatClampNeg) (vp_nar .boolean ((u2 hi2 7 ((hi2 0 6).toNatClampNeg) r1) 0 20))) 0 6).toNatClampNeg)).toNatClampNeg)) (1 : Int32) hi10 hl11 Φ)))))
def wpM_readConcat (hi : HI) (hl : HL) (Φ : Int32 → HI → HL → Prop) : Prop :=
  wbM_readConcat_0 hi hl Φ
def wbM_readIte_93 (hi : HI) (hl : HL) (Φ : Int32 → HI → HL → Prop) : Prop :=
  i01 (0 : Int32) ∧
  Φ (0 : Int32) hi hl
def wbM_readIte_66 (v1 : Int32) (q1 : Int32) (hi : HI) (hl : HL) (Φ : Int32 → HI → HL → Prop) : Prop :=
  wpM_on q1 hi hl (fun r1 hi2 hl3 =>
    (r1 = 0 →
      wbM_readIte_93 hi2 hl3 Φ) ∧
    (¬ (r1 = 0) →
      wpM_readA (0 : Int32) v1 hi2 hl3 (fun r4 hi5 hl6 =>
        (r4 = 0 →
          wbM_readIte_93 hi5 hl6 Φ) ∧
        (¬ (r4 = 0) →
          wpM_readB v1 hi5 hl6 (fun r7 hi8 hl9 =>
            (r7 = 0 →
              wbM_readIte_93 hi8 hl9 Φ) ∧
            (¬ (r7 = 0) →
              i01 (1 : Int32) ∧
              Φ (1 : Int32) hi8 hl9))))))
def wbM_readIte_65 (v1 : Int32) (hi : HI) (hl : HL) (Φ : Int32 → HI → HL → Prop) : Prop :=
  wbM_readIte_66 v1 (0 : Int32) hi hl Φ
def wbM_readIte_0 (v1 : Int32) (hi : HI) (hl : HL) (Φ : Int32 → HI → HL → Prop) : Prop :=
  wpM_nodeWord hi hl (fun r1 hi2 hl3 =>
    vp_in (hi2 0 6) 21 ∧
    vp_in ((u2 hi2 9 ((hi2 0 6).toNatClampNeg) r1) 0 6) 21 ∧
    (r1 < 0 →
      wbM_readIte_65 v1 (u2 (u2 hi2 9 ((hi2 0 6).toNatClampNeg) r1) 12 (((u2 hi2 9 ((hi2 0 6).toNatClampNeg) r1) 0 6).toNatClampNeg) (vp_nar .boolean ((u2 hi2 9 ((hi2 0 6).toNatClampNeg) r1) 0 20))) hl3 Φ) ∧
    (¬ (r1 < 0) →
      vp_in r1 21 ∧
      wpM_isBits ((u2 (u2 hi2 9 ((hi2 0 6).toNatClampNeg) r1) 12 (((u2 hi2 9 ((hi2 0 6).toNatClampNeg) r1) 0 6).toNatClampNeg) (vp_nar .boolean ((u2 hi2 9 ((hi2 0 6).toNatClampNeg) r1) 0 20))) 6 (r1.toNatClampNeg)) (u2 (u2 hi2 9 ((hi2 0 6).toNatClampNeg) r1) 12 (((u2 hi2 9 ((hi2 0 6).toNatClampNeg) r1) 0 6).toNatClampNeg) (vp_nar .boolean ((u2 hi2 9 ((hi2 0 6).toNatClampNeg) r1) 0 20))) hl3 (fun r7 hi8 hl9 =>
        (r7 = 0 →
          wbM_readIte_65 v1 hi8 hl9 Φ) ∧
        (¬ (r7 = 0) →
          vp_in r1 21 ∧
          vp_in (hi8 6 (r1.toNatClampNeg)) 21 ∧
          ((hi8 16 ((hi8 6 (r1.toNatClampNeg)).toNatClampNeg)) = (1 : Int32) →
            wbM_readIte_66 v1 (1 : Int32) hi8 hl9 Φ) ∧
          (¬ ((hi8 16 ((hi8 6 (r1.toNatClampNeg)).toNatClampNeg)) = (1 : Int32)) →
            wbM_readIte_65 v1 hi8 hl9 Φ)))))
def wpM_readIte (v1 : Int32) (hi : HI) (hl : HL) (Φ : Int32 → HI → HL → Prop) : Prop :=
  wbM_readIte_0 v1 hi hl Φ
def wbM_readPlace_167 (hi : HI) (hl : HL) (Φ : Int32 → HI → HL → Prop) : Prop :=
  wpM_on (0 : Int32) hi hl (fun r1 hi2 hl3 =>
    i01 r1 ∧
    Φ r1 hi2 hl3)
def wbM_readPlace_68 (v1 : Int32) (v2 : Int32) (q0 : Int32) (hi : HI) (hl : HL) (Φ : Int32 → HI → HL → Prop) : Prop :=
  wpM_on q0 hi hl (fun r1 hi2 hl3 =>
    (r1 = 0 →
      i01 (0 : Int32) ∧
      Φ (0 : Int32) hi2 hl3) ∧
    (¬ (r1 = 0) →
      wpM_bitsB (1 : Int32) hi2 hl3 (fun r5 hi6 hl7 =>
        (r5 = 0 →
          i01 (0 : Int32) ∧
          Φ (0 : Int32) hi6 hl7) ∧
        (¬ (r5 = 0) →
          (v1 = (25 : Int32) →
            i01 (1 : Int32) ∧
            Φ (1 : Int32) hi6 hl7) ∧
          (¬ (v1 = (25 : Int32)) →
            wpM_nodeWord hi6 hl7 (fun r8 hi9 hl10 =>
              vp_in (hi9 0 6) 21 ∧
              vp_in ((u2 hi9 9 ((hi9 0 6).toNatClampNeg) r8) 0 6) 21 ∧
              (r8 < 0 →
                wbM_readPlace_167 (u2 (u2 hi9 9 ((hi9 0 6).toNatClampNeg) r8) 12 (((u2 hi9 9 ((hi9 0 6).toNatClampNeg) r8) 0 6).toNatClampNeg) (vp_nar .boolean ((u2 hi9 9 ((hi9 0 6).toNatClampNeg) r8) 0 20))) hl10 Φ) ∧
              (¬ (r8 < 0) →
                vp_in r8 21 ∧
                wpM_isBits ((u2 (u2 hi9 9 ((hi9 0 6).toNatClampNeg) r8) 12 (((u2 hi9 9 ((hi9 0 6).toNatClampNeg) r8) 0 6).toNatClampNeg) (vp_nar .boolean ((u2 hi9 9 ((hi9 0 6).toNatClampNeg) r8) 0 20))) 6 (r8.toNatClampNeg)) (u2 (u2 hi9 9 ((hi9 0 6).toNatClampNeg) r8) 12 (((u2 hi9 9 ((hi9 0 6).toNatClampNeg) r8) 0 6).toNatClampNeg) (vp_nar .boolean ((u2 hi9 9 ((hi9 0 6).toNatClampNeg) r8) 0 20))) hl10 (fun r14 hi15 hl16 =>
                  (r14 = 0 →
                    wbM_readPlace_167 hi15 hl16 Φ) ∧
                  (¬ (r14 = 0) →
                    vp_in r8 21 ∧
                    vp_in (hi15 6 (r8.toNatClampNeg)) 21 ∧
                    vp_in v2 21 ∧
                    ((hi15 16 ((hi15 6 (r8.toNatClampNeg)).toNatClampNeg)) = (hi15 16 (v2.toNatClampNeg)) →
                      wpM_on (1 : Int32) hi15 hl16 (fun r20 hi21 hl22 =>
                        i01 r20 ∧
                        Φ r20 hi21 hl22)) ∧
                    (¬ ((hi15 16 ((hi15 6 (r8.toNatClampNeg)).toNatClampNeg)) = (hi15 16 (v2.toNatClampNeg))) →
                      wbM_readPlace_167 hi15 hl16 Φ))))))))))
def wbM_readPlace_67 (v1 : Int32) (v2 : Int32) (hi : HI) (hl : HL) (Φ : Int32 → HI → HL → Prop) : Prop :=
  wbM_readPlace_68 v1 v2 (0 : Int32) hi hl Φ
def wbM_readPlace_0 (v1 : Int32) (v2 : Int32) (hi : HI) (hl : HL) (Φ : Int32 → HI → HL → Prop) : Prop :=
  wpM_nodeWord hi hl (fun r1 hi2 hl3 =>
    vp_in (hi2 0 6) 21 ∧
    vp_in ((u2 hi2 7 ((hi2 0 6).toNatClampNeg) r1) 0 6) 21 ∧
    (r1 < 0 →
      wbM_readPlace_67 v1 v2 (u2 (u2 hi2 7 ((hi2 0 6).toNatClampNeg) r1) 10 (((u2 hi2 7 ((hi2 0 6).toNatClampNeg) r1) 0 6).toNatClampNeg) (vp_nar .boolean (0 : Int32))) hl3 Φ) ∧
    (¬ (r1 < 0) →
      vp_in r1 21 ∧
      vp_in ((u2 (u2 hi2 7 ((hi2 0 6).toNatClampNeg) r1) 10 (((u2 hi2 7 ((hi2 0 6).toNatClampNeg) r1) 0 6).toNatClampNeg) (vp_nar .boolean (0 : Int32))) 6 (r1.toNatClampNeg)) 21 ∧
      (((u2 (u2 hi2 7 ((hi2 0 6).toNatClampNeg) r1) 10 (((u2 hi2 7 ((hi2 0 6).toNatClampNeg) r1) 0 6).toNatClampNeg) (vp_nar .boolean (0 : Int32))) 15 (((u2 (u2 hi2 7 ((hi2 0 6).toNatClampNeg) r1) 10 (((u2 hi2 7 ((hi2 0 6).toNatClampNeg) r1) 0 6).toNatClampNeg) (vp_nar .boolean (0 : Int32))) 6 (r1.toNatClampNeg)).toNatClampNeg)) = 0 →
        wbM_readPlace_67 v1 v2 (u2 (u2 hi2 7 ((hi2 0 6).toNatClampNeg) r1) 10 (((u2 hi2 7 ((hi2 0 6).toNatClampNeg) r1) 0 6).toNatClampNeg) (vp_nar .boolean (0 : Int32))) hl3 Φ) ∧
      (¬ (((u2 (u2 hi2 7 ((hi2 0 6).toNatClampNeg) r1) 10 (((u2 hi2 7 ((hi2 0 6).toNatClampNeg) r1) 0 6).toNatClampNeg) (vp_nar .boolean (0 : Int32))) 15 (((u2 (u2 hi2 7 ((hi2 0 6).toNatClampNeg) r1) 10 (((u2 hi2 7 ((hi2 0 6).toNatClampNeg) r1) 0 6).toNatClampNeg) (vp_nar .boolean (0 : Int32))) 6 (r1.toNatClampNeg)).toNatClampNeg)) = 0) →
        vp_in r1 21 ∧
        vp_in ((u2 (u2 hi2 7 ((hi2 0 6).toNatClampNeg) r1) 10 (((u2 hi2 7 ((hi2 0 6).toNatClampNeg) r1) 0 6).toNatClampNeg) (vp_nar .boolean (0 : Int32))) 6 (r1.toNatClampNeg)) 21 ∧
        vp_in v2 21 ∧
        (((u2 (u2 hi2 7 ((hi2 0 6).toNatClampNeg) r1) 10 (((u2 hi2 7 ((hi2 0 6).toNatClampNeg) r1) 0 6).toNatClampNeg) (vp_nar .boolean (0 : Int32))) 16 (((u2 (u2 hi2 7 ((hi2 0 6).toNatClampNeg) r1) 10 (((u2 hi2 7 ((hi2 0 6).toNatClampNeg) r1) 0 6).toNatClampNeg) (vp_nar .boolean (0 : Int32))) 6 (r1.toNatClampNeg)).toNatClampNeg)) = ((u2 (u2 hi2 7 ((hi2 0 6).toNatClampNeg) r1) 10 (((u2 hi2 7 ((hi2 0 6).toNatClampNeg) r1) 0 6).toNatClampNeg) (vp_nar .boolean (0 : Int32))) 16 (v2.toNatClampNeg)) →
          wbM_readPlace_68 v1 v2 (1 : Int32) (u2 (u2 hi2 7 ((hi2 0 6).toNatClampNeg) r1) 10 (((u2 hi2 7 ((hi2 0 6).toNatClampNeg) r1) 0 6).toNatClampNeg) (vp_nar .boolean (0 : Int32))) hl3 Φ) ∧
        (¬ (((u2 (u2 hi2 7 ((hi2 0 6).toNatClampNeg) r1) 10 (((u2 hi2 7 ((hi2 0 6).toNatClampNeg) r1) 0 6).toNatClampNeg) (vp_nar .boolean (0 : Int32))) 16 (((u2 (u2 hi2 7 ((hi2 0 6).toNatClampNeg) r1) 10 (((u2 hi2 7 ((hi2 0 6).toNatClampNeg) r1) 0 6).toNatClampNeg) (vp_nar .boolean (0 : Int32))) 6 (r1.toNatClampNeg)).toNatClampNeg)) = ((u2 (u2 hi2 7 ((hi2 0 6).toNatClampNeg) r1) 10 (((u2 hi2 7 ((hi2 0 6).toNatClampNeg) r1) 0 6).toNatClampNeg) (vp_nar .boolean (0 : Int32))) 16 (v2.toNatClampNeg))) →
          wbM_readPlace_67 v1 v2 (u2 (u2 hi2 7 ((hi2 0 6).toNatClampNeg) r1) 10 (((u2 hi2 7 ((hi2 0 6).toNatClampNeg) r1) 0 6).toNatClampNeg) (vp_nar .boolean (0 : Int32))) hl3 Φ))))
def wpM_readPlace (v1 : Int32) (v2 : Int32) (hi : HI) (hl : HL) (Φ : Int32 → HI → HL → Prop) : Prop :=
  wbM_readPlace_0 v1 v2 hi hl Φ
def wbM_readRest_60 (v2 : Int32) (hi : HI) (hl : HL) (Φ : Int32 → HI → HL → Prop) : Prop :=
  wpM_readA (0 : Int32) v2 hi hl (fun r1 hi2 hl3 =>
    i01 r1 ∧
    Φ r1 hi2 hl3)
def wbM_readRest_195 (hi : HI) (hl : HL) (Φ : Int32 → HI → HL → Prop) : Prop :=
  i01 (0 : Int32) ∧
  Φ (0 : Int32) hi hl
def wbM_readRest_162 (hi : HI) (hl : HL) (Φ : Int32 → HI → HL → Prop) : Prop :=
  wpM_bitsA (0 : Int32) hi hl (fun r1 hi2 hl3 =>
    (r1 = 0 →
      wbM_readRest_195 hi2 hl3 Φ) ∧
    (¬ (r1 = 0) →
      vp_in (hi2 0 6) 21 ∧
      vp_in (hi2 7 ((hi2 0 6).toNatClampNeg)) 21 ∧
      wpM_readB (hi2 6 ((hi2 7 ((hi2 0 6).toNatClampNeg)).toNatClampNeg)) hi2 hl3 (fun r6 hi7 hl8 =>
        (r6 = 0 →
          wbM_readRest_195 hi7 hl8 Φ) ∧
        (¬ (r6 = 0) →
          i01 (1 : Int32) ∧
          Φ (1 : Int32) hi7 hl8))))
def wbM_readRest_148 (hi : HI) (hl : HL) (Φ : Int32 → HI → HL → Prop) : Prop :=
  i01 (0 : Int32) ∧
  Φ (0 : Int32) hi hl
def wbM_readRest_106 (hi : HI) (hl : HL) (Φ : Int32 → HI → HL → Prop) : Prop :=
  i01 (0 : Int32) ∧
  Φ (0 : Int32) hi hl
def wbM_readRest_45 (hi : HI) (hl : HL) (Φ : Int32 → HI → HL → Prop) : Prop :=
  wpM_on (0 : Int32) hi hl (fun r1 hi2 hl3 =>
    i01 r1 ∧
    Φ r1 hi2 hl3)
def wbM_readRest_0 (v1 : Int32) (v2 : Int32) (hi : HI) (hl : HL) (Φ : Int32 → HI → HL → Prop) : Prop :=
  (v1 = (3 : Int32) →
    wpM_number (hi 0 5) hi hl (fun r45 hi46 hl47 =>
      vp_in (hi46 0 6) 21 ∧
      (r45 < 0 →
        wbM_readRest_45 (u2 hi46 13 ((hi46 0 6).toNatClampNeg) r45) hl47 Φ) ∧
      (¬ (r45 < 0) →
        vp_in v2 21 ∧
        (((1 : Int32) <<< (((u2 hi46 13 ((hi46 0 6).toNatClampNeg) r45) 16 (v2.toNatClampNeg)) &&& 31)) ≤ r45 →
          wbM_readRest_45 (u2 hi46 13 ((hi46 0 6).toNatClampNeg) r45) hl47 Φ) ∧
        (¬ (((1 : Int32) <<< (((u2 hi46 13 ((hi46 0 6).toNatClampNeg) r45) 16 (v2.toNatClampNeg)) &&& 31)) ≤ r45) →
          wpM_on (1 : Int32) (u2 hi46 13 ((hi46 0 6).toNatClampNeg) r45) hl47 (fun r50 hi51 hl52 =>
            i01 r50 ∧
            Φ r50 hi51 hl52))))) ∧
  (¬ (v1 = (3 : Int32)) →
    (v1 = (4 : Int32) →
      wbM_readRest_60 v2 hi hl Φ) ∧
    (¬ (v1 = (4 : Int32)) →
      (v1 = (5 : Int32) →
        wbM_readRest_60 v2 hi hl Φ) ∧
      (¬ (v1 = (5 : Int32)) →
        (v1 = (6 : Int32) →
          wpM_bitsA (0 : Int32) hi hl (fun r41 hi42 hl43 =>
            i01 r41 ∧
            Φ r41 hi42 hl43)) ∧
        (¬ (v1 = (6 : Int32)) →
          ((16 : Int32) < v1 →
            (v1 = (17 : Int32) →
              wpM_readA (1 : Int32) v2 hi hl (fun r25 hi26 hl27 =>
                (r25 = 0 →
                  wbM_readRest_148 hi26 hl27 Φ) ∧
                (¬ (r25 = 0) →
                  vp_in (hi26 0 6) 21 ∧
                  vp_in (hi26 7 ((hi26 0 6).toNatClampNeg)) 21 ∧
                  wpM_readB (hi26 6 ((hi26 7 ((hi26 0 6).toNatClampNeg)).toNatClampNeg)) hi26 hl27 (fun r30 hi31 hl32 =>
                    (r30 = 0 →
                      wbM_readRest_148 hi31 hl32 Φ) ∧
                    (¬ (r30 = 0) →
                      i01 (1 : Int32) ∧
                      Φ (1 : Int32) hi31 hl32))))) ∧
            (¬ (v1 = (17 : Int32)) →
              (v1 = (18 : Int32) →
                wbM_readRest_162 hi hl Φ) ∧
              (¬ (v1 = (18 : Int32)) →
                (v1 = (19 : Int32) →
                  wbM_readRest_162 hi hl Φ) ∧
                (¬ (v1 = (19 : Int32)) →
                  (v1 = (20 : Int32) →
                    wpM_readConcat hi hl (fun r21 hi22 hl23 =>
                      i01 r21 ∧
                      Φ r21 hi22 hl23)) ∧
                  (¬ (v1 = (20 : Int32)) →
                    (v1 = (21 : Int32) →
                      wpM_readSlice hi hl (fun r17 hi18 hl19 =>
                        i01 r17 ∧
                        Φ r17 hi18 hl19)) ∧
                    (¬ (v1 = (21 : Int32)) →
                      (v1 = (22 : Int32) →
                        wpM_readExtended hi hl (fun r1 hi2 hl3 =>
                          i01 r1 ∧
                          Φ r1 hi2 hl3)) ∧
                      (¬ (v1 = (22 : Int32)) →
                        (v1 = (23 : Int32) →
                          wpM_readExtended hi hl (fun r13 hi14 hl15 =>
                            i01 r13 ∧
                            Φ r13 hi14 hl15)) ∧
                        (¬ (v1 = (23 : Int32)) →
                          (v1 = (24 : Int32) →
                            wpM_readIte v2 hi hl (fun r9 hi10 hl11 =>
                              i01 r9 ∧
                              Φ r9 hi10 hl11)) ∧
                          (¬ (v1 = (24 : Int32)) →
                            wpM_readPlace v1 v2 hi hl (fun r5 hi6 hl7 =>
                              i01 r5 ∧
                              Φ r5 hi6 hl7)))))))))) ∧
          (¬ ((16 : Int32) < v1) →
            wpM_readA (0 : Int32) v2 hi hl (fun r34 hi35 hl36 =>
              (r34 = 0 →
                wbM_readRest_106 hi35 hl36 Φ) ∧
              (¬ (r34 = 0) →
                wpM_readB v2 hi35 hl36 (fun r37 hi38 hl39 =>
                  (r37 = 0 →
                    wbM_readRest_106 hi38 hl39 Φ) ∧
                  (¬ (r37 = 0) →
                    i01 (1 : Int32) ∧
                    Φ (1 : Int32) hi38 hl39)))))))))
def wpM_readRest (v1 : Int32) (v2 : Int32) (hi : HI) (hl : HL) (Φ : Int32 → HI → HL → Prop) : Prop :=
  wbM_readRest_0 v1 v2 hi hl Φ
def wbM_asked_24 (hi : HI) (hl : HL) (Φ : Int32 → HI → HL → Prop) : Prop :=
  Φ (1 : Int32) hi hl
def wbM_asked_0 (v0 : Int32) (hi : HI) (hl : HL) (Φ : Int32 → HI → HL → Prop) : Prop :=
  (v0 = (6 : Int32) →
    wbM_asked_24 hi hl Φ) ∧
  (¬ (v0 = (6 : Int32)) →
    (v0 = (17 : Int32) →
      wbM_asked_24 hi hl Φ) ∧
    (¬ (v0 = (17 : Int32)) →
      (v0 = (18 : Int32) →
        wbM_asked_24 hi hl Φ) ∧
      (¬ (v0 = (18 : Int32)) →
        (v0 = (19 : Int32) →
          wbM_asked_24 hi hl Φ) ∧
        (¬ (v0 = (19 : Int32)) →
          (v0 = (26 : Int32) →
            Φ (3 : Int32) hi hl) ∧
          (¬ (v0 = (26 : Int32)) →
            (v0 = (24 : Int32) →
              Φ (0 : Int32) hi hl) ∧
            (¬ (v0 = (24 : Int32)) →
              Φ (2 : Int32) hi hl))))))
def wpM_asked (v0 : Int32) (hi : HI) (hl : HL) (Φ : Int32 → HI → HL → Prop) : Prop :=
  wbM_asked_0 v0 hi hl Φ
def wbM_readLine_239 (v2 : Int32) (hi : HI) (hl : HL) (Φ : Int32 → HI → HL → Prop) : Prop :=
  wpM_readState v2 hi hl (fun r1 hi2 hl3 =>
    i01 r1 ∧
    Φ r1 hi2 hl3)
def wbM_readLine_257 (v2 : Int32) (hi : HI) (hl : HL) (Φ : Int32 → HI → HL → Prop) : Prop :=
  wpM_readInit v2 hi hl (fun r1 hi2 hl3 =>
    i01 r1 ∧
    Φ r1 hi2 hl3)
def wbM_readLine_383 (hi : HI) (hl : HL) (Φ : Int32 → HI → HL → Prop) : Prop :=
  i01 (0 : Int32) ∧
  Φ (0 : Int32) hi hl
def wbM_readLine_358 (v2 : Int32) (v4 : Int32) (q0 : Int32) (hi : HI) (hl : HL) (Φ : Int32 → HI → HL → Prop) : Prop :=
  wpM_on q0 hi hl (fun r1 hi2 hl3 =>
    (r1 = 0 →
      wbM_readLine_383 hi2 hl3 Φ) ∧
    (¬ (r1 = 0) →
      wpM_readRest v2 v4 hi2 hl3 (fun r4 hi5 hl6 =>
        (r4 = 0 →
          wbM_readLine_383 hi5 hl6 Φ) ∧
        (¬ (r4 = 0) →
          i01 (1 : Int32) ∧
          Φ (1 : Int32) hi5 hl6))))
def wbM_readLine_357 (v2 : Int32) (v4 : Int32) (hi : HI) (hl : HL) (Φ : Int32 → HI → HL → Prop) : Prop :=
  wbM_readLine_358 v2 v4 (0 : Int32) hi hl Φ
def wbM_readLine_353 (v2 : Int32) (v4 : Int32) (hi : HI) (hl : HL) (Φ : Int32 → HI → HL → Prop) : Prop :=
  wbM_readLine_358 v2 v4 (1 : Int32) hi hl Φ
def wbM_readLine_152 (v2 : Int32) (q1 : Int32) (hi : HI) (hl : HL) (Φ : Int32 → HI → HL → Prop) : Prop :=
  wpM_on q1 hi hl (fun r1 hi2 hl3 =>
    (r1 = 0 →
      i01 (0 : Int32) ∧
      Φ (0 : Int32) hi2 hl3) ∧
    (¬ (r1 = 0) →
      vp_in (hi2 0 6) 21 ∧
      vp_in ((u2 hi2 7 ((hi2 0 6).toNatClampNeg) (-1 : Int32)) 0 6) 21 ∧
      vp_in ((u2 (u2 hi2 7 ((hi2 0 6).toNatClampNeg) (-1 : Int32)) 8 (((u2 hi2 7 ((hi2 0 6).toNatClampNeg) (-1 : Int32)) 0 6).toNatClampNeg) (-1 : Int32)) 0 6) 21 ∧
      vp_in ((u2 (u2 (u2 hi2 7 ((hi2 0 6).toNatClampNeg) (-1 : Int32)) 8 (((u2 hi2 7 ((hi2 0 6).toNatClampNeg) (-1 : Int32)) 0 6).toNatClampNeg) (-1 : Int32)) 9 (((u2 (u2 hi2 7 ((hi2 0 6).toNatClampNeg) (-1 : Int32)) 8 (((u2 hi2 7 ((hi2 0 6).toNatClampNeg) (-1 : Int32)) 0 6).toNatClampNeg) (-1 : Int32)) 0 6).toNatClampNeg) (-1 : Int32)) 0 6) 21 ∧
      vp_in ((u2 (u2 (u2 (u2 hi2 7 ((hi2 0 6).toNatClampNeg) (-1 : Int32)) 8 (((u2 hi2 7 ((hi2 0 6).toNatClampNeg) (-1 : Int32)) 0 6).toNatClampNeg) (-1 : Int32)) 9 (((u2 (u2 hi2 7 ((hi2 0 6).toNatClampNeg) (-1 : Int32)) 8 (((u2 hi2 7 ((hi2 0 6).toNatClampNeg) (-1 : Int32)) 0 6).toNatClampNeg) (-1 : Int32)) 0 6).toNatClampNeg) (-1 : Int32)) 10 (((u2 (u2 (u2 hi2 7 ((hi2 0 6).toNatClampNeg) (-1 : Int32)) 8 (((u2 hi2 7 ((hi2 0 6).toNatClampNeg) (-1 : Int32)) 0 6).toNatClampNeg) (-1 : Int32)) 9 (((u2 (u2 hi2 7 ((hi2 0 6).toNatClampNeg) (-1 : Int32)) 8 (((u2 hi2 7 ((hi2 0 6).toNatClampNeg) (-1 : Int32)) 0 6).toNatClampNeg) (-1 : Int32)) 0 6).toNatClampNeg) (-1 : Int32)) 0 6).toNatClampNeg) (vp_nar .boolean (0 : Int32))) 0 6) 21 ∧
      vp_in ((u2 (u2 (u2 (u2 (u2 hi2 7 ((hi2 0 6).toNatClampNeg) (-1 : Int32)) 8 (((u2 hi2 7 ((hi2 0 6).toNatClampNeg) (-1 : Int32)) 0 6).toNatClampNeg) (-1 : Int32)) 9 (((u2 (u2 hi2 7 ((hi2 0 6).toNatClampNeg) (-1 : Int32)) 8 (((u2 hi2 7 ((hi2 0 6).toNatClampNeg) (-1 : Int32)) 0 6).toNatClampNeg) (-1 : Int32)) 0 6).toNatClampNeg) (-1 : Int32)) 10 (((u2 (u2 (u2 hi2 7 ((hi2 0 6).toNatClampNeg) (-1 : Int32)) 8 (((u2 hi2 7 ((hi2 0 6).toNatClampNeg) (-1 : Int32)) 0 6).toNatClampNeg) (-1 : Int32)) 9 (((u2 (u2 hi2 7 ((hi2 0 6).toNatClampNeg) (-1 : Int32)) 8 (((u2 hi2 7 ((hi2 0 6).toNatClampNeg) (-1 : Int32)) 0 6).toNatClampNeg) (-1 : Int32)) 0 6).toNatClampNeg) (-1 : Int32)) 0 6).toNatClampNeg) (vp_nar .boolean (0 : Int32))) 11 (((u2 (u2 (u2 (u2 hi2 7 ((hi2 0 6).toNatClampNeg) (-1 : Int32)) 8 (((u2 hi2 7 ((hi2 0 6).toNatClampNeg) (-1 : Int32)) 0 6).toNatClampNeg) (-1 : Int32)) 9 (((u2 (u2 hi2 7 ((hi2 0 6).toNatClampNeg) (-1 : Int32)) 8 (((u2 hi2 7 ((hi2 0 6).toNatClampNeg) (-1 : Int32)) 0 6).toNatClampNeg) (-1 : Int32)) 0 6).toNatClampNeg) (-1 : Int32)) 10 (((u2 (u2 (u2 hi2 7 ((hi2 0 6).toNatClampNeg) (-1 : Int32)) 8 (((u2 hi2 7 ((hi2 0 6).toNatClampNeg) (-1 : Int32)) 0 6).toNatClampNeg) (-1 : Int32)) 9 (((u2 (u2 hi2 7 ((hi2 0 6).toNatClampNeg) (-1 : Int32)) 8 (((u2 hi2 7 ((hi2 0 6).toNatClampNeg) (-1 : Int32)) 0 6).toNatClampNeg) (-1 : Int32)) 0 6).toNatClampNeg) (-1 : Int32)) 0 6).toNatClampNeg) (vp_nar .boolean (0 : Int32))) 0 6).toNatClampNeg) (vp_nar .boolean (0 : Int32))) 0 6) 21 ∧
      (v2 = 0 →
        wpM_readSort (u2 (u2 (u2 (u2 (u2 (u2 hi2 7 ((hi2 0 6).toNatClampNeg) (-1 : Int32)) 8 (((u2 hi2 7 ((hi2 0 6).toNatClampNeg) (-1 : Int32)) 0 6).toNatClampNeg) (-1 : Int32)) 9 (((u2 (u2 hi2 7 ((hi2 0 6).toNatClampNeg) (-1 : Int32)) 8 (((u2 hi2 7 ((hi2 0 6).toNatClampNeg) (-1 : Int32)) 0 6).toNatClampNeg) (-1 : Int32)) 0 6).toNatClampNeg) (-1 : Int32)) 10 (((u2 (u2 (u2 hi2 7 ((hi2 0 6).toNatClampNeg) (-1 : Int32)) 8 (((u2 hi2 7 ((hi2 0 6).toNatClampNeg) (-1 : Int32)) 0 6).toNatClampNeg) (-1 : Int32)) 9 (((u2 (u2 hi2 7 ((hi2 0 6).toNatClampNeg) (-1 : Int32)) 8 (((u2 hi2 7 ((hi2 0 6).toNatClampNeg) (-1 : Int32)) 0 6).toNatClampNeg) (-1 : Int32)) 0 6).toNatClampNeg) (-1 : Int32)) 0 6).toNatClampNeg) (vp_nar .boolean (0 : Int32))) 11 (((u2 (u2 (u2 (u2 hi2 7 ((hi2 0 6).toNatClampNeg) (-1 : Int32)) 8 (((u2 hi2 7 ((hi2 0 6).toNatClampNeg) (-1 : Int32)) 0 6).toNatClampNeg) (-1 : Int32)) 9 (((u2 (u2 hi2 7 ((hi2 0 6).toNatClampNeg) (-1 : Int32)) 8 (((u2 hi2 7 ((hi2 0 6).toNatClampNeg) (-1 : Int32)) 0 6).toNatClampNeg) (-1 : Int32)) 0 6).toNatClampNeg) (-1 : Int32)) 10 (((u2 (u2 (u2 hi2 7 ((hi2 0 6).toNatClampNeg) (-1 : Int32)) 8 (((u2 hi2 7 ((hi2 0 6).toNatClampNeg) (-1 : Int32)) 0 6).toNatClampNeg) (-1 : Int32)) 9 (((u2 (u2 hi2 7 ((hi2 0 6).toNatClampNeg) (-1 : Int32)) 8 (((u2 hi2 7 ((hi2 0 6).toNatClampNeg) (-1 : Int32)) 0 6).toNatClampNeg) (-1 : Int32)) 0 6).toNatClampNeg) (-1 : Int32)) 0 6).toNatClampNeg) (vp_nar .boolean (0 : Int32))) 0 6).toNatClampNeg) (vp_nar .boolean (0 : Int32))) 12 (((u2 (u2 (u2 (u2 (u2 hi2 7 ((hi2 0 6).toNatClampNeg) (-1 : Int32)) 8 (((u2 hi2 7 ((hi2 0 6).toNatClampNeg) (-1 : Int32)) 0 6).toNatClampNeg) (-1 : Int32)) 9 (((u2 (u2 hi2 7 ((hi2 0 6).toNatClampNeg) (-1 : Int32)) 8 (((u2 hi2 7 ((hi2 0 6).toNatClampNeg) (-1 : Int32)) 0 6).toNatClampNeg) (-1 : Int32)) 0 6).toNatClampNeg) (-1 : Int32)) 10 (((u2 (u2 (u2 hi2 7 ((hi2 0 6).toNatClampNeg) (-1 : Int32)) 8 (((u2 hi2 7 ((hi2 0 6).toNatClampNeg) (-1 : Int32)) 0 6).toNatClampNeg) (-1 : Int32)) 9 (((u2 (u2 hi2 7 ((hi2 0 6).toNatClampNeg) (-1 : Int32)) 8 (((u2 hi2 7 ((hi2 0 6).toNatClampNeg) (-1 : Int32)) 0 6).toNatClampNeg) (-1 : Int32)) 0 6).toNatClampNeg) (-1 : Int32)) 0 6).toNatClampNeg) (vp_nar .boolean (0 : Int32))) 11 (((u2 (u2 (u2 (u2 hi2 7 ((hi2 0 6).toNatClampNeg) (-1 : Int32)) 8 (((u2 hi2 7 ((hi2 0 6).toNatClampNeg) (-1 : Int32)) 0 6).toNatClampNeg) (-1 : Int32)) 9 (((u2 (u2 hi2 7 ((hi2 0 6).toNatClampNeg) (-1 : Int32)) 8 (((u2 hi2 7 ((hi2 0 6).toNatClampNeg) (-1 : Int32)) 0 6).toNatClampNeg) (-1 : Int32)) 0 6).toNatClampNeg) (-1 : Int32)) 10 (((u2 (u2 (u2 hi2 7 ((hi2 0 6).toNatClampNeg) (-1 : Int32)) 8 (((u2 hi2 7 ((hi2 0 6).toNatClampNeg) (-1 : Int32)) 0 6).toNatClampNeg) (-1 : Int32)) 9 (((u2 (u2 hi2 7 ((hi2 0 6).toNatClampNeg) (-1 : Int32)) 8 (((u2 hi2 7 ((hi2 0 6).toNatClampNeg) (-1 : Int32)) 0 6).toNatClampNeg) (-1 : Int32)) 0 6).toNatClampNeg) (-1 : Int32)) 0 6).toNatClampNeg) (vp_nar .boolean (0 : Int32))) 0 6).toNatClampNeg) (vp_nar .boolean (0 : Int32))) 0 6).toNatClampNeg) (vp_nar .boolean (0 : Int32))) hl3 (fun r26 hi27 hl28 =>
          i01 r26 ∧
          Φ r26 hi27 hl28)) ∧
      (¬ (v2 = 0) →
        (v2 = (1 : Int32) →
          wbM_readLine_239 v2 (u2 (u2 (u2 (u2 (u2 (u2 hi2 7 ((hi2 0 6).toNatClampNeg) (-1 : Int32)) 8 (((u2 hi2 7 ((hi2 0 6).toNatClampNeg) (-1 : Int32)) 0 6).toNatClampNeg) (-1 : Int32)) 9 (((u2 (u2 hi2 7 ((hi2 0 6).toNatClampNeg) (-1 : Int32)) 8 (((u2 hi2 7 ((hi2 0 6).toNatClampNeg) (-1 : Int32)) 0 6).toNatClampNeg) (-1 : Int32)) 0 6).toNatClampNeg) (-1 : Int32)) 10 (((u2 (u2 (u2 hi2 7 ((hi2 0 6).toNatClampNeg) (-1 : Int32)) 8 (((u2 hi2 7 ((hi2 0 6).toNatClampNeg) (-1 : Int32)) 0 6).toNatClampNeg) (-1 : Int32)) 9 (((u2 (u2 hi2 7 ((hi2 0 6).toNatClampNeg) (-1 : Int32)) 8 (((u2 hi2 7 ((hi2 0 6).toNatClampNeg) (-1 : Int32)) 0 6).toNatClampNeg) (-1 : Int32)) 0 6).toNatClampNeg) (-1 : Int32)) 0 6).toNatClampNeg) (vp_nar .boolean (0 : Int32))) 11 (((u2 (u2 (u2 (u2 hi2 7 ((hi2 0 6).toNatClampNeg) (-1 : Int32)) 8 (((u2 hi2 7 ((hi2 0 6).toNatClampNeg) (-1 : Int32)) 0 6).toNatClampNeg) (-1 : Int32)) 9 (((u2 (u2 hi2 7 ((hi2 0 6).toNatClampNeg) (-1 : Int32)) 8 (((u2 hi2 7 ((hi2 0 6).toNatClampNeg) (-1 : Int32)) 0 6).toNatClampNeg) (-1 : Int32)) 0 6).toNatClampNeg) (-1 : Int32)) 10 (((u2 (u2 (u2 hi2 7 ((hi2 0 6).toNatClampNeg) (-1 : Int32)) 8 (((u2 hi2 7 ((hi2 0 6).toNatClampNeg) (-1 : Int32)) 0 6).toNatClampNeg) (-1 : Int32)) 9 (((u2 (u2 hi2 7 ((hi2 0 6).toNatClampNeg) (-1 : Int32)) 8 (((u2 hi2 7 ((hi2 0 6).toNatClampNeg) (-1 : Int32)) 0 6).toNatClampNeg) (-1 : Int32)) 0 6).toNatClampNeg) (-1 : Int32)) 0 6).toNatClampNeg) (vp_nar .boolean (0 : Int32))) 0 6).toNatClampNeg) (vp_nar .boolean (0 : Int32))) 12 (((u2 (u2 (u2 (u2 (u2 hi2 7 ((hi2 0 6).toNatClampNeg) (-1 : Int32)) 8 (((u2 hi2 7 ((hi2 0 6).toNatClampNeg) (-1 : Int32)) 0 6).toNatClampNeg) (-1 : Int32)) 9 (((u2 (u2 hi2 7 ((hi2 0 6).toNatClampNeg) (-1 : Int32)) 8 (((u2 hi2 7 ((hi2 0 6).toNatClampNeg) (-1 : Int32)) 0 6).toNatClampNeg) (-1 : Int32)) 0 6).toNatClampNeg) (-1 : Int32)) 10 (((u2 (u2 (u2 hi2 7 ((hi2 0 6).toNatClampNeg) (-1 : Int32)) 8 (((u2 hi2 7 ((hi2 0 6).toNatClampNeg) (-1 : Int32)) 0 6).toNatClampNeg) (-1 : Int32)) 9 (((u2 (u2 hi2 7 ((hi2 0 6).toNatClampNeg) (-1 : Int32)) 8 (((u2 hi2 7 ((hi2 0 6).toNatClampNeg) (-1 : Int32)) 0 6).toNatClampNeg) (-1 : Int32)) 0 6).toNatClampNeg) (-1 : Int32)) 0 6).toNatClampNeg) (vp_nar .boolean (0 : Int32))) 11 (((u2 (u2 (u2 (u2 hi2 7 ((hi2 0 6).toNatClampNeg) (-1 : Int32)) 8 (((u2 hi2 7 ((hi2 0 6).toNatClampNeg) (-1 : Int32)) 0 6).toNatClampNeg) (-1 : Int32)) 9 (((u2 (u2 hi2 7 ((hi2 0 6).toNatClampNeg) (-1 : Int32)) 8 (((u2 hi2 7 ((hi2 0 6).toNatClampNeg) (-1 : Int32)) 0 6).toNatClampNeg) (-1 : Int32)) 0 6).toNatClampNeg) (-1 : Int32)) 10 (((u2 (u2 (u2 hi2 7 ((hi2 0 6).toNatClampNeg) (-1 : Int32)) 8 (((u2 hi2 7 ((hi2 0 6).toNatClampNeg) (-1 : Int32)) 0 6).toNatClampNeg) (-1 : Int32)) 9 (((u2 (u2 hi2 7 ((hi2 0 6).toNatClampNeg) (-1 : Int32)) 8 (((u2 hi2 7 ((hi2 0 6).toNatClampNeg) (-1 : Int32)) 0 6).toNatClampNeg) (-1 : Int32)) 0 6).toNatClampNeg) (-1 : Int32)) 0 6).toNatClampNeg) (vp_nar .boolean (0 : Int32))) 0 6).toNatClampNeg) (vp_nar .boolean (0 : Int32))) 0 6).toNatClampNeg) (vp_nar .boolean (0 : Int32))) hl3 Φ) ∧
        (¬ (v2 = (1 : Int32)) →
          (v2 = (2 : Int32) →
            wbM_readLine_239 v2 (u2 (u2 (u2 (u2 (u2 (u2 hi2 7 ((hi2 0 6).toNatClampNeg) (-1 : Int32)) 8 (((u2 hi2 7 ((hi2 0 6).toNatClampNeg) (-1 : Int32)) 0 6).toNatClampNeg) (-1 : Int32)) 9 (((u2 (u2 hi2 7 ((hi2 0 6).toNatClampNeg) (-1 : Int32)) 8 (((u2 hi2 7 ((hi2 0 6).toNatClampNeg) (-1 : Int32)) 0 6).toNatClampNeg) (-1 : Int32)) 0 6).toNatClampNeg) (-1 : Int32)) 10 (((u2 (u2 (u2 hi2 7 ((hi2 0 6).toNatClampNeg) (-1 : Int32)) 8 (((u2 hi2 7 ((hi2 0 6).toNatClampNeg) (-1 : Int32)) 0 6).toNatClampNeg) (-1 : Int32)) 9 (((u2 (u2 hi2 7 ((hi2 0 6).toNatClampNeg) (-1 : Int32)) 8 (((u2 hi2 7 ((hi2 0 6).toNatClampNeg) (-1 : Int32)) 0 6).toNatClampNeg) (-1 : Int32)) 0 6).toNatClampNeg) (-1 : Int32)) 0 6).toNatClampNeg) (vp_nar .boolean (0 : Int32))) 11 (((u2 (u2 (u2 (u2 hi2 7 ((hi2 0 6).toNatClampNeg) (-1 : Int32)) 8 (((u2 hi2 7 ((hi2 0 6).toNatClampNeg) (-1 : Int32)) 0 6).toNatClampNeg) (-1 : Int32)) 9 (((u2 (u2 hi2 7 ((hi2 0 6).toNatClampNeg) (-1 : Int32)) 8 (((u2 hi2 7 ((hi2 0 6).toNatClampNeg) (-1 : Int32)) 0 6).toNatClampNeg) (-1 : Int32)) 0 6).toNatClampNeg) (-1 : Int32)) 10 (((u2 (u2 (u2 hi2 7 ((hi2 0 6).toNatClampNeg) (-1 : Int32)) 8 (((u2 hi2 7 ((hi2 0 6).toNatClampNeg) (-1 : Int32)) 0 6).toNatClampNeg) (-1 : Int32)) 9 (((u2 (u2 hi2 7 ((hi2 0 6).toNatClampNeg) (-1 : Int32)) 8 (((u2 hi2 7 ((hi2 0 6).toNatClampNeg) (-1 : Int32)) 0 6).toNatClampNeg) (-1 : Int32)) 0 6).toNatClampNeg) (-1 : Int32)) 0 6).toNatClampNeg) (vp_nar .boolean (0 : Int32))) 0 6).toNatClampNeg) (vp_nar .boolean (0 : Int32))) 12 (((u2 (u2 (u2 (u2 (u2 hi2 7 ((hi2 0 6).toNatClampNeg) (-1 : Int32)) 8 (((u2 hi2 7 ((hi2 0 6).toNatClampNeg) (-1 : Int32)) 0 6).toNatClampNeg) (-1 : Int32)) 9 (((u2 (u2 hi2 7 ((hi2 0 6).toNatClampNeg) (-1 : Int32)) 8 (((u2 hi2 7 ((hi2 0 6).toNatClampNeg) (-1 : Int32)) 0 6).toNatClampNeg) (-1 : Int32)) 0 6).toNatClampNeg) (-1 : Int32)) 10 (((u2 (u2 (u2 hi2 7 ((hi2 0 6).toNatClampNeg) (-1 : Int32)) 8 (((u2 hi2 7 ((hi2 0 6).toNatClampNeg) (-1 : Int32)) 0 6).toNatClampNeg) (-1 : Int32)) 9 (((u2 (u2 hi2 7 ((hi2 0 6).toNatClampNeg) (-1 : Int32)) 8 (((u2 hi2 7 ((hi2 0 6).toNatClampNeg) (-1 : Int32)) 0 6).toNatClampNeg) (-1 : Int32)) 0 6).toNatClampNeg) (-1 : Int32)) 0 6).toNatClampNeg) (vp_nar .boolean (0 : Int32))) 11 (((u2 (u2 (u2 (u2 hi2 7 ((hi2 0 6).toNatClampNeg) (-1 : Int32)) 8 (((u2 hi2 7 ((hi2 0 6).toNatClampNeg) (-1 : Int32)) 0 6).toNatClampNeg) (-1 : Int32)) 9 (((u2 (u2 hi2 7 ((hi2 0 6).toNatClampNeg) (-1 : Int32)) 8 (((u2 hi2 7 ((hi2 0 6).toNatClampNeg) (-1 : Int32)) 0 6).toNatClampNeg) (-1 : Int32)) 0 6).toNatClampNeg) (-1 : Int32)) 10 (((u2 (u2 (u2 hi2 7 ((hi2 0 6).toNatClampNeg) (-1 : Int32)) 8 (((u2 hi2 7 ((hi2 0 6).toNatClampNeg) (-1 : Int32)) 0 6).toNatClampNeg) (-1 : Int32)) 9 (((u2 (u2 hi2 7 ((hi2 0 6).toNatClampNeg) (-1 : Int32)) 8 (((u2 hi2 7 ((hi2 0 6).toNatClampNeg) (-1 : Int32)) 0 6).toNatClampNeg) (-1 : Int32)) 0 6).toNatClampNeg) (-1 : Int32)) 0 6).toNatClampNeg) (vp_nar .boolean (0 : Int32))) 0 6).toNatClampNeg) (vp_nar .boolean (0 : Int32))) 0 6).toNatClampNeg) (vp_nar .boolean (0 : Int32))) hl3 Φ) ∧
          (¬ (v2 = (2 : Int32)) →
            (v2 = (27 : Int32) →
              wbM_readLine_257 v2 (u2 (u2 (u2 (u2 (u2 (u2 hi2 7 ((hi2 0 6).toNatClampNeg) (-1 : Int32)) 8 (((u2 hi2 7 ((hi2 0 6).toNatClampNeg) (-1 : Int32)) 0 6).toNatClampNeg) (-1 : Int32)) 9 (((u2 (u2 hi2 7 ((hi2 0 6).toNatClampNeg) (-1 : Int32)) 8 (((u2 hi2 7 ((hi2 0 6).toNatClampNeg) (-1 : Int32)) 0 6).toNatClampNeg) (-1 : Int32)) 0 6).toNatClampNeg) (-1 : Int32)) 10 (((u2 (u2 (u2 hi2 7 ((hi2 0 6).toNatClampNeg) (-1 : Int32)) 8 (((u2 hi2 7 ((hi2 0 6).toNatClampNeg) (-1 : Int32)) 0 6).toNatClampNeg) (-1 : Int32)) 9 (((u2 (u2 hi2 7 ((hi2 0 6).toNatClampNeg) (-1 : Int32)) 8 (((u2 hi2 7 ((hi2 0 6).toNatClampNeg) (-1 : Int32)) 0 6).toNatClampNeg) (-1 : Int32)) 0 6).toNatClampNeg) (-1 : Int32)) 0 6).toNatClampNeg) (vp_nar .boolean (0 : Int32))) 11 (((u2 (u2 (u2 (u2 hi2 7 ((hi2 0 6).toNatClampNeg) (-1 : Int32)) 8 (((u2 hi2 7 ((hi2 0 6).toNatClampNeg) (-1 : Int32)) 0 6).toNatClampNeg) (-1 : Int32)) 9 (((u2 (u2 hi2 7 ((hi2 0 6).toNatClampNeg) (-1 : Int32)) 8 (((u2 hi2 7 ((hi2 0 6).toNatClampNeg) (-1 : Int32)) 0 6).toNatClampNeg) (-1 : Int32)) 0 6).toNatClampNeg) (-1 : Int32)) 10 (((u2 (u2 (u2 hi2 7 ((hi2 0 6).toNatClampNeg) (-1 : Int32)) 8 (((u2 hi2 7 ((hi2 0 6).toNatClampNeg) (-1 : Int32)) 0 6).toNatClampNeg) (-1 : Int32)) 9 (((u2 (u2 hi2 7 ((hi2 0 6).toNatClampNeg) (-1 : Int32)) 8 (((u2 hi2 7 ((hi2 0 6).toNatClampNeg) (-1 : Int32)) 0 6).toNatClampNeg) (-1 : Int32)) 0 6).toNatClampNeg) (-1 : Int32)) 0 6).toNatClampNeg) (vp_nar .boolean (0 : Int32))) 0 6).toNatClampNeg) (vp_nar .boolean (0 : Int32))) 12 (((u2 (u2 (u2 (u2 (u2 hi2 7 ((hi2 0 6).toNatClampNeg) (-1 : Int32)) 8 (((u2 hi2 7 ((hi2 0 6).toNatClampNeg) (-1 : Int32)) 0 6).toNatClampNeg) (-1 : Int32)) 9 (((u2 (u2 hi2 7 ((hi2 0 6).toNatClampNeg) (-1 : Int32)) 8 (((u2 hi2 7 ((hi2 0 6).toNatClampNeg) (-1 : Int32)) 0 6).toNatClampNeg) (-1 : Int32)) 0 6).toNatClampNeg) (-1 : Int32)) 10 (((u2 (u2 (u2 hi2 7 ((hi2 0 6).toNatClampNeg) (-1 : Int32)) 8 (((u2 hi2 7 ((hi2 0 6).toNatClampNeg) (-1 : Int32)) 0 6).toNatClampNeg) (-1 : Int32)) 9 (((u2 (u2 hi2 7 ((hi2 0 6).toNatClampNeg) (-1 : Int32)) 8 (((u2 hi2 7 ((hi2 0 6).toNatClampNeg) (-1 : Int32)) 0 6).toNatClampNeg) (-1 : Int32)) 0 6).toNatClampNeg) (-1 : Int32)) 0 6).toNatClampNeg) (vp_nar .boolean (0 : Int32))) 11 (((u2 (u2 (u2 (u2 hi2 7 ((hi2 0 6).toNatClampNeg) (-1 : Int32)) 8 (((u2 hi2 7 ((hi2 0 6).toNatClampNeg) (-1 : Int32)) 0 6).toNatClampNeg) (-1 : Int32)) 9 (((u2 (u2 hi2 7 ((hi2 0 6).toNatClampNeg) (-1 : Int32)) 8 (((u2 hi2 7 ((hi2 0 6).toNatClampNeg) (-1 : Int32)) 0 6).toNatClampNeg) (-1 : Int32)) 0 6).toNatClampNeg) (-1 : Int32)) 10 (((u2 (u2 (u2 hi2 7 ((hi2 0 6).toNatClampNeg) (-1 : Int32)) 8 (((u2 hi2 7 ((hi2 0 6).toNatClampNeg) (-1 : Int32)) 0 6).toNatClampNeg) (-1 : Int32)) 9 (((u2 (u2 hi2 7 ((hi2 0 6).toNatClampNeg) (-1 : Int32)) 8 (((u2 hi2 7 ((hi2 0 6).toNatClampNeg) (-1 : Int32)) 0 6).toNatClampNeg) (-1 : Int32)) 0 6).toNatClampNeg) (-1 : Int32)) 0 6).toNatClampNeg) (vp_nar .boolean (0 : Int32))) 0 6).toNatClampNeg) (vp_nar .boolean (0 : Int32))) 0 6).toNatClampNeg) (vp_nar .boolean (0 : Int32))) hl3 Φ) ∧
            (¬ (v2 = (27 : Int32)) →
              (v2 = (28 : Int32) →
                wbM_readLine_257 v2 (u2 (u2 (u2 (u2 (u2 (u2 hi2 7 ((hi2 0 6).toNatClampNeg) (-1 : Int32)) 8 (((u2 hi2 7 ((hi2 0 6).toNatClampNeg) (-1 : Int32)) 0 6).toNatClampNeg) (-1 : Int32)) 9 (((u2 (u2 hi2 7 ((hi2 0 6).toNatClampNeg) (-1 : Int32)) 8 (((u2 hi2 7 ((hi2 0 6).toNatClampNeg) (-1 : Int32)) 0 6).toNatClampNeg) (-1 : Int32)) 0 6).toNatClampNeg) (-1 : Int32)) 10 (((u2 (u2 (u2 hi2 7 ((hi2 0 6).toNatClampNeg) (-1 : Int32)) 8 (((u2 hi2 7 ((hi2 0 6).toNatClampNeg) (-1 : Int32)) 0 6).toNatClampNeg) (-1 : Int32)) 9 (((u2 (u2 hi2 7 ((hi2 0 6).toNatClampNeg) (-1 : Int32)) 8 (((u2 hi2 7 ((hi2 0 6).toNatClampNeg) (-1 : Int32)) 0 6).toNatClampNeg) (-1 : Int32)) 0 6).toNatClampNeg) (-1 : Int32)) 0 6).toNatClampNeg) (vp_nar .boolean (0 : Int32))) 11 (((u2 (u2 (u2 (u2 hi2 7 ((hi2 0 6).toNatClampNeg) (-1 : Int32)) 8 (((u2 hi2 7 ((hi2 0 6).toNatClampNeg) (-1 : Int32)) 0 6).toNatClampNeg) (-1 : Int32)) 9 (((u2 (u2 hi2 7 ((hi2 0 6).toNatClampNeg) (-1 : Int32)) 8 (((u2 hi2 7 ((hi2 0 6).toNatClampNeg) (-1 : Int32)) 0 6).toNatClampNeg) (-1 : Int32)) 0 6).toNatClampNeg) (-1 : Int32)) 10 (((u2 (u2 (u2 hi2 7 ((hi2 0 6).toNatClampNeg) (-1 : Int32)) 8 (((u2 hi2 7 ((hi2 0 6).toNatClampNeg) (-1 : Int32)) 0 6).toNatClampNeg) (-1 : Int32)) 9 (((u2 (u2 hi2 7 ((hi2 0 6).toNatClampNeg) (-1 : Int32)) 8 (((u2 hi2 7 ((hi2 0 6).toNatClampNeg) (-1 : Int32)) 0 6).toNatClampNeg) (-1 : Int32)) 0 6).toNatClampNeg) (-1 : Int32)) 0 6).toNatClampNeg) (vp_nar .boolean (0 : Int32))) 0 6).toNatClampNeg) (vp_nar .boolean (0 : Int32))) 12 (((u2 (u2 (u2 (u2 (u2 hi2 7 ((hi2 0 6).toNatClampNeg) (-1 : Int32)) 8 (((u2 hi2 7 ((hi2 0 6).toNatClampNeg) (-1 : Int32)) 0 6).toNatClampNeg) (-1 : Int32)) 9 (((u2 (u2 hi2 7 ((hi2 0 6).toNatClampNeg) (-1 : Int32)) 8 (((u2 hi2 7 ((hi2 0 6).toNatClampNeg) (-1 : Int32)) 0 6).toNatClampNeg) (-1 : Int32)) 0 6).toNatClampNeg) (-1 : Int32)) 10 (((u2 (u2 (u2 hi2 7 ((hi2 0 6).toNatClampNeg) (-1 : Int32)) 8 (((u2 hi2 7 ((hi2 0 6).toNatClampNeg) (-1 : Int32)) 0 6).toNatClampNeg) (-1 : Int32)) 9 (((u2 (u2 hi2 7 ((hi2 0 6).toNatClampNeg) (-1 : Int32)) 8 (((u2 hi2 7 ((hi2 0 6).toNatClampNeg) (-1 : Int32)) 0 6).toNatClampNeg) (-1 : Int32)) 0 6).toNatClampNeg) (-1 : Int32)) 0 6).toNatClampNeg) (vp_nar .boolean (0 : Int32))) 11 (((u2 (u2 (u2 (u2 hi2 7 ((hi2 0 6).toNatClampNeg) (-1 : Int32)) 8 (((u2 hi2 7 ((hi2 0 6).toNatClampNeg) (-1 : Int32)) 0 6).toNatClampNeg) (-1 : Int32)) 9 (((u2 (u2 hi2 7 ((hi2 0 6).toNatClampNeg) (-1 : Int32)) 8 (((u2 hi2 7 ((hi2 0 6).toNatClampNeg) (-1 : Int32)) 0 6).toNatClampNeg) (-1 : Int32)) 0 6).toNatClampNeg) (-1 : Int32)) 10 (((u2 (u2 (u2 hi2 7 ((hi2 0 6).toNatClampNeg) (-1 : Int32)) 8 (((u2 hi2 7 ((hi2 0 6).toNatClampNeg) (-1 : Int32)) 0 6).toNatClampNeg) (-1 : Int32)) 9 (((u2 (u2 hi2 7 ((hi2 0 6).toNatClampNeg) (-1 : Int32)) 8 (((u2 hi2 7 ((hi2 0 6).toNatClampNeg) (-1 : Int32)) 0 6).toNatClampNeg) (-1 : Int32)) 0 6).toNatClampNeg) (-1 : Int32)) 0 6).toNatClampNeg) (vp_nar .boolean (0 : Int32))) 0 6).toNatClampNeg) (vp_nar .boolean (0 : Int32))) 0 6).toNatClampNeg) (vp_nar .boolean (0 : Int32))) hl3 Φ) ∧
              (¬ (v2 = (28 : Int32)) →
                (v2 < (29 : Int32) →
                  wpM_sortWord (u2 (u2 (u2 (u2 (u2 (u2 hi2 7 ((hi2 0 6).toNatClampNeg) (-1 : Int32)) 8 (((u2 hi2 7 ((hi2 0 6).toNatClampNeg) (-1 : Int32)) 0 6).toNatClampNeg) (-1 : Int32)) 9 (((u2 (u2 hi2 7 ((hi2 0 6).toNatClampNeg) (-1 : Int32)) 8 (((u2 hi2 7 ((hi2 0 6).toNatClampNeg) (-1 : Int32)) 0 6).toNatClampNeg) (-1 : Int32)) 0 6).toNatClampNeg) (-1 : Int32)) 10 (((u2 (u2 (u2 hi2 7 ((hi2 0 6).toNatClampNeg) (-1 : Int32)) 8 (((u2 hi2 7 ((hi2 0 6).toNatClampNeg) (-1 : Int32)) 0 6).toNatClampNeg) (-1 : Int32)) 9 (((u2 (u2 hi2 7 ((hi2 0 6).toNatClampNeg) (-1 : Int32)) 8 (((u2 hi2 7 ((hi2 0 6).toNatClampNeg) (-1 : Int32)) 0 6).toNatClampNeg) (-1 : Int32)) 0 6).toNatClampNeg) (-1 : Int32)) 0 6).toNatClampNeg) (vp_nar .boolean (0 : Int32))) 11 (((u2 (u2 (u2 (u2 hi2 7 ((hi2 0 6).toNatClampNeg) (-1 : Int32)) 8 (((u2 hi2 7 ((hi2 0 6).toNatClampNeg) (-1 : Int32)) 0 6).toNatClampNeg) (-1 : Int32)) 9 (((u2 (u2 hi2 7 ((hi2 0 6).toNatClampNeg) (-1 : Int32)) 8 (((u2 hi2 7 ((hi2 0 6).toNatClampNeg) (-1 : Int32)) 0 6).toNatClampNeg) (-1 : Int32)) 0 6).toNatClampNeg) (-1 : Int32)) 10 (((u2 (u2 (u2 hi2 7 ((hi2 0 6).toNatClampNeg) (-1 : Int32)) 8 (((u2 hi2 7 ((hi2 0 6).toNatClampNeg) (-1 : Int32)) 0 6).toNatClampNeg) (-1 : Int32)) 9 (((u2 (u2 hi2 7 ((hi2 0 6).toNatClampNeg) (-1 : Int32)) 8 (((u2 hi2 7 ((hi2 0 6).toNatClampNeg) (-1 : Int32)) 0 6).toNatClampNeg) (-1 : Int32)) 0 6).toNatClampNeg) (-1 : Int32)) 0 6).toNatClampNeg) (vp_nar .boolean (0 : Int32))) 0 6).toNatClampNeg) (vp_nar .boolean (0 : Int32))) 12 (((u2 (u2 (u2 (u2 (u2 hi2 7 ((hi2 0 6).toNatClampNeg) (-1 : Int32)) 8 (((u2 hi2 7 ((hi2 0 6).toNatClampNeg) (-1 : Int32)) 0 6).toNatClampNeg) (-1 : Int32)) 9 (((u2 (u2 hi2 7 ((hi2 0 6).toNatClampNeg) (-1 : Int32)) 8 (((u2 hi2 7 ((hi2 0 6).toNatClampNeg) (-1 : Int32)) 0 6).toNatClampNeg) (-1 : Int32)) 0 6).toNatClampNeg) (-1 : Int32)) 10 (((u2 (u2 (u2 hi2 7 ((hi2 0 6).toNatClampNeg) (-1 : Int32)) 8 (((u2 hi2 7 ((hi2 0 6).toNatClampNeg) (-1 : Int32)) 0 6).toNatClampNeg) (-1 : Int32)) 9 (((u2 (u2 hi2 7 ((hi2 0 6).toNatClampNeg) (-1 : Int32)) 8 (((u2 hi2 7 ((hi2 0 6).toNatClampNeg) (-1 : Int32)) 0 6).toNatClampNeg) (-1 : Int32)) 0 6).toNatClampNeg) (-1 : Int32)) 0 6).toNatClampNeg) (vp_nar .boolean (0 : Int32))) 11 (((u2 (u2 (u2 (u2 hi2 7 ((hi2 0 6).toNatClampNeg) (-1 : Int32)) 8 (((u2 hi2 7 ((hi2 0 6).toNatClampNeg) (-1 : Int32)) 0 6).toNatClampNeg) (-1 : Int32)) 9 (((u2 (u2 hi2 7 ((hi2 0 6).toNatClampNeg) (-1 : Int32)) 8 (((u2 hi2 7 ((hi2 0 6).toNatClampNeg) (-1 : Int32)) 0 6).toNatClampNeg) (-1 : Int32)) 0 6).toNatClampNeg) (-1 : Int32)) 10 (((u2 (u2 (u2 hi2 7 ((hi2 0 6).toNatClampNeg) (-1 : Int32)) 8 (((u2 hi2 7 ((hi2 0 6).toNatClampNeg) (-1 : Int32)) 0 6).toNatClampNeg) (-1 : Int32)) 9 (((u2 (u2 hi2 7 ((hi2 0 6).toNatClampNeg) (-1 : Int32)) 8 (((u2 hi2 7 ((hi2 0 6).toNatClampNeg) (-1 : Int32)) 0 6).toNatClampNeg) (-1 : Int32)) 0 6).toNatClampNeg) (-1 : Int32)) 0 6).toNatClampNeg) (vp_nar .boolean (0 : Int32))) 0 6).toNatClampNeg) (vp_nar .boolean (0 : Int32))) 0 6).toNatClampNeg) (vp_nar .boolean (0 : Int32))) hl3 (fun r10 hi11 hl12 =>
                    vp_in (hi11 0 6) 21 ∧
                    wpM_asked v2 (u2 hi11 6 ((hi11 0 6).toNatClampNeg) r10) hl12 (fun r14 hi15 hl16 =>
                      (r10 < 0 →
                        wbM_readLine_357 v2 r10 hi15 hl16 Φ) ∧
                      (¬ (r10 < 0) →
                        (r14 = 0 →
                          wbM_readLine_353 v2 r10 hi15 hl16 Φ) ∧
                        (¬ (r14 = 0) →
                          (r14 = (3 : Int32) →
                            vp_in r10 21 ∧
                            ((hi15 15 (r10.toNatClampNeg)) = 0 →
                              wbM_readLine_357 v2 r10 hi15 hl16 Φ) ∧
                            (¬ ((hi15 15 (r10.toNatClampNeg)) = 0) →
                              wbM_readLine_353 v2 r10 hi15 hl16 Φ)) ∧
                          (¬ (r14 = (3 : Int32)) →
                            wpM_isBits r10 hi15 hl16 (fun r17 hi18 hl19 =>
                              (r17 = 0 →
                                wbM_readLine_357 v2 r10 hi18 hl19 Φ) ∧
                              (¬ (r17 = 0) →
                                (r14 = (2 : Int32) →
                                  wbM_readLine_353 v2 r10 hi18 hl19 Φ) ∧
                                (¬ (r14 = (2 : Int32)) →
                                  vp_in r10 21 ∧
                                  ((hi18 16 (r10.toNatClampNeg)) = (1 : Int32) →
                                    wbM_readLine_353 v2 r10 hi18 hl19 Φ) ∧
                                  (¬ ((hi18 16 (r10.toNatClampNeg)) = (1 : Int32)) →
                                    wbM_readLine_357 v2 r10 hi18 hl19 Φ)))))))))) ∧
                (¬ (v2 < (29 : Int32)) →
                  wpM_bitsA (1 : Int32) (u2 (u2 (u2 (u2 (u2 (u2 hi2 7 ((hi2 0 6).toNatClampNeg) (-1 : Int32)) 8 (((u2 hi2 7 ((hi2 0 6).toNatClampNeg) (-1 : Int32)) 0 6).toNatClampNeg) (-1 : Int32)) 9 (((u2 (u2 hi2 7 ((hi2 0 6).toNatClampNeg) (-1 : Int32)) 8 (((u2 hi2 7 ((hi2 0 6).toNatClampNeg) (-1 : Int32)) 0 6).toNatClampNeg) (-1 : Int32)) 0 6).toNatClampNeg) (-1 : Int32)) 10 (((u2 (u2 (u2 hi2 7 ((hi2 0 6).toNatClampNeg) (-1 : Int32)) 8 (((u2 hi2 7 ((hi2 0 6).toNatClampNeg) (-1 : Int32)) 0 6).toNatClampNeg) (-1 : Int32)) 9 (((u2 (u2 hi2 7 ((hi2 0 6).toNatClampNeg) (-1 : Int32)) 8 (((u2 hi2 7 ((hi2 0 6).toNatClampNeg) (-1 : Int32)) 0 6).toNatClampNeg) (-1 : Int32)) 0 6).toNatClampNeg) (-1 : Int32)) 0 6).toNatClampNeg) (vp_nar .boolean (0 : Int32))) 11 (((u2 (u2 (u2 (u2 hi2 7 ((hi2 0 6).toNatClampNeg) (-1 : Int32)) 8 (((u2 hi2 7 ((hi2 0 6).toNatClampNeg) (-1 : Int32)) 0 6).toNatClampNeg) (-1 : Int32)) 9 (((u2 (u2 hi2 7 ((hi2 0 6).toNatClampNeg) (-1 : Int32)) 8 (((u2 hi2 7 ((hi2 0 6).toNatClampNeg) (-1 : Int32)) 0 6).toNatClampNeg) (-1 : Int32)) 0 6).toNatClampNeg) (-1 : Int32)) 10 (((u2 (u2 (u2 hi2 7 ((hi2 0 6).toNatClampNeg) (-1 : Int32)) 8 (((u2 hi2 7 ((hi2 0 6).toNatClampNeg) (-1 : Int32)) 0 6).toNatClampNeg) (-1 : Int32)) 9 (((u2 (u2 hi2 7 ((hi2 0 6).toNatClampNeg) (-1 : Int32)) 8 (((u2 hi2 7 ((hi2 0 6).toNatClampNeg) (-1 : Int32)) 0 6).toNatClampNeg) (-1 : Int32)) 0 6).toNatClampNeg) (-1 : Int32)) 0 6).toNatClampNeg) (vp_nar .boolean (0 : Int32))) 0 6).toNatClampNeg) (vp_nar .boolean (0 : Int32))) 12 (((u2 (u2 (u2 (u2 (u2 hi2 7 ((hi2 0 6).toNatClampNeg) (-1 : Int32)) 8 (((u2 hi2 7 ((hi2 0 6).toNatClampNeg) (-1 : Int32)) 0 6).toNatClampNeg) (-1 : Int32)) 9 (((u2 (u2 hi2 7 ((hi2 0 6).toNatClampNeg) (-1 : Int32)) 8 (((u2 hi2 7 ((hi2 0 6).toNatClampNeg) (-1 : Int32)) 0 6).toNatClampNeg) (-1 : Int32)) 0 6).toNatClampNeg) (-1 : Int32)) 10 (((u2 (u2 (u2 hi2 7 ((hi2 0 6).toNatClampNeg) (-1 : Int32)) 8 (((u2 hi2 7 ((hi2 0 6).toNatClampNeg) (-1 : Int32)) 0 6).toNatClampNeg) (-1 : Int32)) 9 (((u2 (u2 hi2 7 ((hi2 0 6).toNatClampNeg) (-1 : Int32)) 8 (((u2 hi2 7 ((hi2 0 6).toNatClampNeg) (-1 : Int32)) 0 6).toNatClampNeg) (-1 : Int32)) 0 6).toNatClampNeg) (-1 : Int32)) 0 6).toNatClampNeg) (vp_nar .boolean (0 : Int32))) 11 (((u2 (u2 (u2 (u2 hi2 7 ((hi2 0 6).toNatClampNeg) (-1 : Int32)) 8 (((u2 hi2 7 ((hi2 0 6).toNatClampNeg) (-1 : Int32)) 0 6).toNatClampNeg) (-1 : Int32)) 9 (((u2 (u2 hi2 7 ((hi2 0 6).toNatClampNeg) (-1 : Int32)) 8 (((u2 hi2 7 ((hi2 0 6).toNatClampNeg) (-1 : Int32)) 0 6).toNatClampNeg) (-1 : Int32)) 0 6).toNatClampNeg) (-1 : Int32)) 10 (((u2 (u2 (u2 hi2 7 ((hi2 0 6).toNatClampNeg) (-1 : Int32)) 8 (((u2 hi2 7 ((hi2 0 6).toNatClampNeg) (-1 : Int32)) 0 6).toNatClampNeg) (-1 : Int32)) 9 (((u2 (u2 hi2 7 ((hi2 0 6).toNatClampNeg) (-1 : Int32)) 8 (((u2 hi2 7 ((hi2 0 6).toNatClampNeg) (-1 : Int32)) 0 6).toNatClampNeg) (-1 : Int32)) 0 6).toNatClampNeg) (-1 : Int32)) 0 6).toNatClampNeg) (vp_nar .boolean (0 : Int32))) 0 6).toNatClampNeg) (vp_nar .boolean (0 : Int32))) 0 6).toNatClampNeg) (vp_nar .boolean (0 : Int32))) hl3 (fun r22 hi23 hl24 =>
                    i01 r22 ∧
                    Φ r22 hi23 hl24)))))))))
def wbM_readLine_151 (v2 : Int32) (hi : HI) (hl : HL) (Φ : Int32 → HI → HL → Prop) : Prop :=
  wbM_readLine_152 v2 (0 : Int32) hi hl Φ
def wbM_readLine_147 (v2 : Int32) (hi : HI) (hl : HL) (Φ : Int32 → HI → HL → Prop) : Prop :=
  wbM_readLine_152 v2 (1 : Int32) hi hl Φ
def wbM_readLine_119 (k86 : (Int32 → Int32 → Int32 → HI → HL → Prop)) (v2 : Int32) (v4 : Int32) (q0 : Int32) (hi : HI) (hl : HL) (Φ : Int32 → HI → HL → Prop) : Prop :=
  k86 v2 q0 (v4 + Int32.ofInt (1)) hi hl
def wbM_readLine_86 : Nat → Int32 → Int32 → Int32 → HI → HL → (Int32 → HI → HL → Prop) → Prop
  | 0, _, _, _, _, _, _ => False
  | n + 1, v2, v3, v4, hi, hl, Φ =>
    ((hi 0 6) ≤ v4 →
      (v2 < 0 →
        wbM_readLine_151 v2 hi hl Φ) ∧
      (¬ (v2 < 0) →
        wpM_in v2 (12 : Int32) (14 : Int32) hi hl (fun r1 hi2 hl3 =>
          (r1 = 0 →
            wbM_readLine_147 v2 hi2 hl3 Φ) ∧
          (¬ (r1 = 0) →
            ((2 : Int32) ≤ v3 →
              wbM_readLine_151 v2 hi2 hl3 Φ) ∧
            (¬ ((2 : Int32) ≤ v3) →
              wbM_readLine_147 v2 hi2 hl3 Φ))))) ∧
    (¬ ((hi 0 6) ≤ v4) →
      vp_in v4 21 ∧
      wpM_in (hi 5 (v4.toNatClampNeg)) (12 : Int32) (14 : Int32) hi hl (fun r5 hi6 hl7 =>
        (r5 = 0 →
          wbM_readLine_119 (fun v2 v3 v4 hi hl => wbM_readLine_86 n v2 v3 v4 hi hl Φ) v2 v4 v3 hi6 hl7 Φ) ∧
        (¬ (r5 = 0) →
          wbM_readLine_119 (fun v2 v3 v4 hi hl => wbM_readLine_86 n v2 v3 v4 hi hl Φ) v2 v4 (v3 + (1 : Int32)) hi6 hl7 Φ)))
def wbM_readLine_54 (q1 : Int32) (hi : HI) (hl : HL) (Φ : Int32 → HI → HL → Prop) : Prop :=
  wpM_on q1 hi hl (fun r1 hi2 hl3 =>
    (r1 = 0 →
      i01 (0 : Int32) ∧
      Φ (0 : Int32) hi2 hl3) ∧
    (¬ (r1 = 0) →
      wpM_letters (1 : Int32) hi2 hl3 (fun r4 hi5 hl6 =>
        wpM_kindOf r4 hi5 hl6 (fun r7 hi8 hl9 =>
          vp_in (hi8 0 6) 21 ∧
          (∃ fu, wbM_readLine_86 fu r7 (0 : Int32) (0 : Int32) (u2 hi8 5 ((hi8 0 6).toNatClampNeg) r7) hl9 Φ)))))
def wbM_readLine_53 (hi : HI) (hl : HL) (Φ : Int32 → HI → HL → Prop) : Prop :=
  wbM_readLine_54 (0 : Int32) hi hl Φ
def wbM_readLine_49 (hi : HI) (hl : HL) (Φ : Int32 → HI → HL → Prop) : Prop :=
  wbM_readLine_54 (1 : Int32) hi hl Φ
def wbM_readLine_0 (hi : HI) (hl : HL) (Φ : Int32 → HI → HL → Prop) : Prop :=
  wpM_number (0 : Int32) (u2 hi 0 5 (0 : Int32)) hl (fun r1 hi2 hl3 =>
    vp_in (hi2 0 6) 21 ∧
    (r1 < (1 : Int32) →
      wbM_readLine_53 (u2 hi2 4 ((hi2 0 6).toNatClampNeg) r1) hl3 Φ) ∧
    (¬ (r1 < (1 : Int32)) →
      (((u2 hi2 4 ((hi2 0 6).toNatClampNeg) r1) 0 6) = 0 →
        wbM_readLine_49 (u2 hi2 4 ((hi2 0 6).toNatClampNeg) r1) hl3 Φ) ∧
      (¬ (((u2 hi2 4 ((hi2 0 6).toNatClampNeg) r1) 0 6) = 0) →
        vp_in (((u2 hi2 4 ((hi2 0 6).toNatClampNeg) r1) 0 6) - (1 : Int32)) 21 ∧
        (r1 ≤ ((u2 hi2 4 ((hi2 0 6).toNatClampNeg) r1) 4 ((((u2 hi2 4 ((hi2 0 6).toNatClampNeg) r1) 0 6) - (1 : Int32)).toNatClampNeg)) →
          wbM_readLine_53 (u2 hi2 4 ((hi2 0 6).toNatClampNeg) r1) hl3 Φ) ∧
        (¬ (r1 ≤ ((u2 hi2 4 ((hi2 0 6).toNatClampNeg) r1) 4 ((((u2 hi2 4 ((hi2 0 6).toNatClampNeg) r1) 0 6) - (1 : Int32)).toNatClampNeg))) →
          wbM_readLine_49 (u2 hi2 4 ((hi2 0 6).toNatClampNeg) r1) hl3 Φ))))
def wpM_readLine (hi : HI) (hl : HL) (Φ : Int32 → HI → HL → Prop) : Prop :=
  wbM_readLine_0 hi hl Φ
def wbM_line_27 (q0 : Int32) (hi : HI) (hl : HL) (Φ : Int32 → HI → HL → Prop) : Prop :=
  (q0 = 0 →
    Φ ((-1 : Int32) - (hi 0 5)) hi hl) ∧
  (¬ (q0 = 0) →
    ((hi 0 6) < (20 : Int32) →
      i01 (0 : Int32) ∧
      vp_in (((u2 (u2 (u2 hi 0 6 ((hi 0 6) + (1 : Int32))) 0 23 (0 : Int32)) 0 25 (-1 : Int32)) 0 6) - (1 : Int32)) 21 ∧
      Φ ((u2 (u2 (u2 hi 0 6 ((hi 0 6) + (1 : Int32))) 0 23 (0 : Int32)) 0 25 (-1 : Int32)) 4 ((((u2 (u2 (u2 hi 0 6 ((hi 0 6) + (1 : Int32))) 0 23 (0 : Int32)) 0 25 (-1 : Int32)) 0 6) - (1 : Int32)).toNatClampNeg)) (u2 (u2 (u2 hi 0 6 ((hi 0 6) + (1 : Int32))) 0 23 (0 : Int32)) 0 25 (-1 : Int32)) hl) ∧
    (¬ ((hi 0 6) < (20 : Int32)) →
      Φ (-100 : Int32) hi hl))
def wbM_line_26 (hi : HI) (hl : HL) (Φ : Int32 → HI → HL → Prop) : Prop :=
  wbM_line_27 (0 : Int32) hi hl Φ
def wbM_line_0 (hi : HI) (hl : HL) (Φ : Int32 → HI → HL → Prop) : Prop :=
  wpM_split hi hl (fun hi2 hl3 =>
    wpM_readLine hi2 hl3 (fun r4 hi5 hl6 =>
      (r4 = 0 →
        wbM_line_26 hi5 hl6 Φ) ∧
      (¬ (r4 = 0) →
        ((hi5 0 5) = (hi5 0 2) →
          wbM_line_27 (1 : Int32) hi5 hl6 Φ) ∧
        (¬ ((hi5 0 5) = (hi5 0 2)) →
          wbM_line_26 hi5 hl6 Φ))))
def wpM_line (hi : HI) (hl : HL) (Φ : Int32 → HI → HL → Prop) : Prop :=
  wbM_line_0 hi hl Φ
def wbM_lines_0 (hi : HI) (hl : HL) (Φ : Int32 → HI → HL → Prop) : Prop :=
  Φ (hi 0 6) hi hl
def wpM_lines (hi : HI) (hl : HL) (Φ : Int32 → HI → HL → Prop) : Prop :=
  wbM_lines_0 hi hl Φ
def wbM_get_0 (v1 : Int32) (v2 : Int32) (hi : HI) (hl : HL) (Φ : Int32 → HI → HL → Prop) : Prop :=
  (v2 = 0 →
    vp_in v1 21 ∧
    Φ (hi 17 (v1.toNatClampNeg)) hi hl) ∧
  (¬ (v2 = 0) →
    vp_in v1 21 ∧
    vp_in (hi 6 (v1.toNatClampNeg)) 21 ∧
    vp_in v1 21 ∧
    Φ ((((1 : Int32) <<< ((hi 16 ((hi 6 (v1.toNatClampNeg)).toNatClampNeg)) &&& 31)) - (1 : Int32)) - (hi 17 (v1.toNatClampNeg))) hi hl)
def wpM_get (v1 : Int32) (v2 : Int32) (hi : HI) (hl : HL) (Φ : Int32 → HI → HL → Prop) : Prop :=
  wbM_get_0 v1 v2 hi hl Φ
def wbM_sign_0 (v1 : Int32) (v2 : Int32) (hi : HI) (hl : HL) (Φ : Int32 → HI → HL → Prop) : Prop :=
  (v1 < ((1 : Int32) <<< ((v2 - (1 : Int32)) &&& 31)) →
    Φ v1 hi hl) ∧
  (¬ (v1 < ((1 : Int32) <<< ((v2 - (1 : Int32)) &&& 31))) →
    Φ (v1 - ((1 : Int32) <<< (v2 &&& 31))) hi hl)
def wpM_sign (v1 : Int32) (v2 : Int32) (hi : HI) (hl : HL) (Φ : Int32 → HI → HL → Prop) : Prop :=
  wbM_sign_0 v1 v2 hi hl Φ
def wbM_binary_0 (v1 : Int32) (v2 : Int32) (v3 : Int32) (v4 : Int32) (hi : HI) (hl : HL) (Φ : Int32 → HI → HL → Prop) : Prop :=
  (v1 = 7 →
    Φ (v2 &&& v3) hi hl) ∧
  (v1 = 8 →
    Φ (v2 ||| v3) hi hl) ∧
  (v1 = 9 →
    Φ (v2 ^^^ v3) hi hl) ∧
  (v1 = 10 →
    Φ ((v2 + v3) &&& (((1 : Int32) <<< (v4 &&& 31)) - (1 : Int32))) hi hl) ∧
  (v1 = 11 →
    Φ ((v2 - v3) &&& (((1 : Int32) <<< (v4 &&& 31)) - (1 : Int32))) hi hl) ∧
  (v1 = 12 →
    Φ ((v2 * v3) &&& (((1 : Int32) <<< (v4 &&& 31)) - (1 : Int32))) hi hl) ∧
  (v1 = 13 →
    (v3 = 0 →
      Φ (((1 : Int32) <<< (v4 &&& 31)) - (1 : Int32)) hi hl) ∧
    (¬ (v3 = 0) →
      ¬ v3 = 0 ∧
      Φ (v2 / v3) hi hl)) ∧
  (v1 = 14 →
    (v3 = 0 →
      Φ v2 hi hl) ∧
    (¬ (v3 = 0) →
      ¬ v3 = 0 ∧
      Φ (v2 - v2 / v3 * v3) hi hl)) ∧
  (v1 = 15 →
    Φ ((v2 <<< (v3 &&& 31)) &&& (((1 : Int32) <<< (v4 &&& 31)) - (1 : Int32))) hi hl) ∧
  (¬ v1 = 7 → ¬ v1 = 8 → ¬ v1 = 9 → ¬ v1 = 10 → ¬ v1 = 11 → ¬ v1 = 12 → ¬ v1 = 13 → ¬ v1 = 14 → ¬ v1 = 15 → 
    Φ (v2 >>> (v3 &&& 31)) hi hl)
def wpM_binary (v1 : Int32) (v2 : Int32) (v3 : Int32) (v4 : Int32) (hi : HI) (hl : HL) (Φ : Int32 → HI → HL → Prop) : Prop :=
  wbM_binary_0 v1 v2 v3 v4 hi hl Φ
def wbM_elementOf_0 (v1 : Int32) (v2 : Int32) (v3 : Int32) (hi : HI) (hl : HL) (Φ : Int32 → HI → HL → Prop) : Prop :=
  (v2 = 0 →
    Φ (v1 &&& (((1 : Int32) <<< (v3 &&& 31)) - (1 : Int32))) hi hl) ∧
  (¬ (v2 = 0) →
    Φ (v1 >>> (v3 &&& 31)) hi hl)
def wpM_elementOf (v1 : Int32) (v2 : Int32) (v3 : Int32) (hi : HI) (hl : HL) (Φ : Int32 → HI → HL → Prop) : Prop :=
  wbM_elementOf_0 v1 v2 v3 hi hl Φ
def wbM_written_68 (v4 : Int32) (v6 : Int32) (q0 : Int32) (hi : HI) (hl : HL) (Φ : Int32 → HI → HL → Prop) : Prop :=
  Φ (v6 + (q0 <<< (v4 &&& 31))) hi hl
def wbM_written_48 (v2 : Int32) (v3 : Int32) (v4 : Int32) (v5 : Int32) (q0 : Int32) (hi : HI) (hl : HL) (Φ : Int32 → HI → HL → Prop) : Prop :=
  (v3 = (1 : Int32) →
    wbM_written_68 v4 q0 v5 hi hl Φ) ∧
  (¬ (v3 = (1 : Int32)) →
    wpM_elementOf v2 (1 : Int32) v4 hi hl (fun r1 hi2 hl3 =>
      wbM_written_68 v4 q0 r1 hi2 hl3 Φ))
def wbM_written_0 (v1 : Int32) (v2 : Int32) (v3 : Int32) (hi : HI) (hl : HL) (Φ : Int32 → HI → HL → Prop) : Prop :=
  vp_in v1 21 ∧
  vp_in (hi 6 (v1.toNatClampNeg)) 21 ∧
  vp_in v1 21 ∧
  vp_in v1 21 ∧
  wpM_get (hi 9 (v1.toNatClampNeg)) (hi 12 (v1.toNatClampNeg)) hi hl (fun r5 hi6 hl7 =>
    (v3 = 0 →
      wbM_written_48 v2 v3 (hi 16 ((hi 6 (v1.toNatClampNeg)).toNatClampNeg)) r5 r5 hi6 hl7 Φ) ∧
    (¬ (v3 = 0) →
      wpM_elementOf v2 (0 : Int32) (hi 16 ((hi 6 (v1.toNatClampNeg)).toNatClampNeg)) hi6 hl7 (fun r8 hi9 hl10 =>
        wbM_written_48 v2 v3 (hi 16 ((hi 6 (v1.toNatClampNeg)).toNatClampNeg)) r5 r8 hi9 hl10 Φ)))
def wpM_written (v1 : Int32) (v2 : Int32) (v3 : Int32) (hi : HI) (hl : HL) (Φ : Int32 → HI → HL → Prop) : Prop :=
  wbM_written_0 v1 v2 v3 hi hl Φ
def wbM_compute_111 (v1 : Int32) (v2 : Int32) (v3 : Int32) (v4 : Int32) (v5 : Int32) (q0 : Int32) (hi : HI) (hl : HL) (Φ : Int32 → HI → HL → Prop) : Prop :=
  vp_in v1 21 ∧
  ((hi 5 (v1.toNatClampNeg)) = 3 →
    vp_in v1 21 ∧
    Φ (hi 13 (v1.toNatClampNeg)) hi hl) ∧
  ((hi 5 (v1.toNatClampNeg)) = 4 →
    Φ (v5 - v2) hi hl) ∧
  ((hi 5 (v1.toNatClampNeg)) = 5 →
    Φ ((-v2) &&& v5) hi hl) ∧
  ((hi 5 (v1.toNatClampNeg)) = 6 →
    (v2 = 0 →
      Φ (0 : Int32) hi hl) ∧
    (¬ (v2 = 0) →
      Φ (1 : Int32) hi hl)) ∧
  ((hi 5 (v1.toNatClampNeg)) = 7 →
    vp_in v1 21 ∧
    wpM_binary (hi 5 (v1.toNatClampNeg)) v2 v3 v4 hi hl (fun r4 hi5 hl6 =>
      Φ r4 hi5 hl6)) ∧
  ((hi 5 (v1.toNatClampNeg)) = 8 →
    vp_in v1 21 ∧
    wpM_binary (hi 5 (v1.toNatClampNeg)) v2 v3 v4 hi hl (fun r8 hi9 hl10 =>
      Φ r8 hi9 hl10)) ∧
  ((hi 5 (v1.toNatClampNeg)) = 9 →
    vp_in v1 21 ∧
    wpM_binary (hi 5 (v1.toNatClampNeg)) v2 v3 v4 hi hl (fun r12 hi13 hl14 =>
      Φ r12 hi13 hl14)) ∧
  ((hi 5 (v1.toNatClampNeg)) = 10 →
    vp_in v1 21 ∧
    wpM_binary (hi 5 (v1.toNatClampNeg)) v2 v3 v4 hi hl (fun r16 hi17 hl18 =>
      Φ r16 hi17 hl18)) ∧
  ((hi 5 (v1.toNatClampNeg)) = 11 →
    vp_in v1 21 ∧
    wpM_binary (hi 5 (v1.toNatClampNeg)) v2 v3 v4 hi hl (fun r20 hi21 hl22 =>
      Φ r20 hi21 hl22)) ∧
  ((hi 5 (v1.toNatClampNeg)) = 12 →
    vp_in v1 21 ∧
    wpM_binary (hi 5 (v1.toNatClampNeg)) v2 v3 v4 hi hl (fun r24 hi25 hl26 =>
      Φ r24 hi25 hl26)) ∧
  ((hi 5 (v1.toNatClampNeg)) = 13 →
    vp_in v1 21 ∧
    wpM_binary (hi 5 (v1.toNatClampNeg)) v2 v3 v4 hi hl (fun r28 hi29 hl30 =>
      Φ r28 hi29 hl30)) ∧
  ((hi 5 (v1.toNatClampNeg)) = 14 →
    vp_in v1 21 ∧
    wpM_binary (hi 5 (v1.toNatClampNeg)) v2 v3 v4 hi hl (fun r32 hi33 hl34 =>
      Φ r32 hi33 hl34)) ∧
  ((hi 5 (v1.toNatClampNeg)) = 15 →
    vp_in v1 21 ∧
    wpM_binary (hi 5 (v1.toNatClampNeg)) v2 v3 v4 hi hl (fun r36 hi37 hl38 =>
      Φ r36 hi37 hl38)) ∧
  ((hi 5 (v1.toNatClampNeg)) = 16 →
    vp_in v1 21 ∧
    wpM_binary (hi 5 (v1.toNatClampNeg)) v2 v3 v4 hi hl (fun r40 hi41 hl42 =>
      Φ r40 hi41 hl42)) ∧
  ((hi 5 (v1.toNatClampNeg)) = 17 →
    (v2 = v3 →
      Φ (1 : Int32) hi hl) ∧
    (¬ (v2 = v3) →
      Φ (0 : Int32) hi hl)) ∧
  ((hi 5 (v1.toNatClampNeg)) = 18 →
    (v3 ≤ v2 →
      Φ (0 : Int32) hi hl) ∧
    (¬ (v3 ≤ v2) →
      Φ (1 : Int32) hi hl)) ∧
  ((hi 5 (v1.toNatClampNeg)) = 19 →
    wpM_sign v2 q0 hi hl (fun r43 hi44 hl45 =>
      wpM_sign v3 q0 hi44 hl45 (fun r46 hi47 hl48 =>
        (r46 ≤ r43 →
          Φ (0 : Int32) hi47 hl48) ∧
        (¬ (r46 ≤ r43) →
          Φ (1 : Int32) hi47 hl48)))) ∧
  ((hi 5 (v1.toNatClampNeg)) = 20 →
    vp_in v1 21 ∧
    vp_in (hi 8 (v1.toNatClampNeg)) 21 ∧
    vp_in (hi 6 ((hi 8 (v1.toNatClampNeg)).toNatClampNeg)) 21 ∧
    Φ ((v2 <<< ((hi 16 ((hi 6 ((hi 8 (v1.toNatClampNeg)).toNatClampNeg)).toNatClampNeg)) &&& 31)) + v3) hi hl) ∧
  ((hi 5 (v1.toNatClampNeg)) = 21 →
    vp_in v1 21 ∧
    Φ ((v2 >>> ((hi 14 (v1.toNatClampNeg)) &&& 31)) &&& v5) hi hl) ∧
  ((hi 5 (v1.toNatClampNeg)) = 22 →
    Φ v2 hi hl) ∧
  ((hi 5 (v1.toNatClampNeg)) = 23 →
    wpM_sign v2 q0 hi hl (fun r53 hi54 hl55 =>
      Φ (r53 &&& v5) hi54 hl55)) ∧
  ((hi 5 (v1.toNatClampNeg)) = 24 →
    vp_in v1 21 ∧
    vp_in v1 21 ∧
    wpM_get (hi 9 (v1.toNatClampNeg)) (hi 12 (v1.toNatClampNeg)) hi hl (fun r58 hi59 hl60 =>
      (r58 = (1 : Int32) →
        Φ v2 hi59 hl60) ∧
      (¬ (r58 = (1 : Int32)) →
        Φ v3 hi59 hl60))) ∧
  ((hi 5 (v1.toNatClampNeg)) = 25 →
    wpM_elementOf v2 v3 v4 hi hl (fun r61 hi62 hl63 =>
      Φ r61 hi62 hl63)) ∧
  ((hi 5 (v1.toNatClampNeg)) = 26 →
    wpM_written v1 v2 v3 hi hl (fun r64 hi65 hl66 =>
      Φ r64 hi65 hl66)) ∧
  (¬ (hi 5 (v1.toNatClampNeg)) = 3 → ¬ (hi 5 (v1.toNatClampNeg)) = 4 → ¬ (hi 5 (v1.toNatClampNeg)) = 5 → ¬ (hi 5 (v1.toNatClampNeg)) = 6 → ¬ (hi 5 (v1.toNatClampNeg)) = 7 → ¬ (hi 5 (v1.toNatClampNeg)) = 8 → ¬ (hi 5 (v1.toNatClampNeg)) = 9 → ¬ (hi 5 (v1.toNatClampNeg)) = 10 → ¬ (hi 5 (v1.toNatClampNeg)) = 11 → ¬ (hi 5 (v1.toNatClampNeg)) = 12 → ¬ (hi 5 (v1.toNatClampNeg)) = 13 → ¬ (hi 5 (v1.toNatClampNeg)) = 14 → ¬ (hi 5 (v1.toNatClampNeg)) = 15 → ¬ (hi 5 (v1.toNatClampNeg)) = 16 → ¬ (hi 5 (v1.toNatClampNeg)) = 17 → ¬ (hi 5 (v1.toNatClampNeg)) = 18 → ¬ (hi 5 (v1.toNatClampNeg)) = 19 → ¬ (hi 5 (v1.toNatClampNeg)) = 20 → ¬ (hi 5 (v1.toNatClampNeg)) = 21 → ¬ (hi 5 (v1.toNatClampNeg)) = 22 → ¬ (hi 5 (v1.toNatClampNeg)) = 23 → ¬ (hi 5 (v1.toNatClampNeg)) = 24 → ¬ (hi 5 (v1.toNatClampNeg)) = 25 → ¬ (hi 5 (v1.toNatClampNeg)) = 26 → 
    vp_in v1 21 ∧
    wpM_binary (hi 5 (v1.toNatClampNeg)) v2 v3 v4 hi hl (fun r68 hi69 hl70 =>
      Φ r68 hi69 hl70))
def wbM_compute_59 (v1 : Int32) (v2 : Int32) (q0 : Int32) (hi : HI) (hl : HL) (Φ : Int32 → HI → HL → Prop) : Prop :=
  vp_in v1 21 ∧
  vp_in (hi 6 (v1.toNatClampNeg)) 21 ∧
  vp_in v1 21 ∧
  (0 ≤ (hi 7 (v1.toNatClampNeg)) →
    vp_in v1 21 ∧
    vp_in (hi 7 (v1.toNatClampNeg)) 21 ∧
    vp_in (hi 6 ((hi 7 (v1.toNatClampNeg)).toNatClampNeg)) 21 ∧
    wbM_compute_111 v1 v2 q0 (hi 16 ((hi 6 (v1.toNatClampNeg)).toNatClampNeg)) (((1 : Int32) <<< ((hi 16 ((hi 6 (v1.toNatClampNeg)).toNatClampNeg)) &&& 31)) - (1 : Int32)) (hi 16 ((hi 6 ((hi 7 (v1.toNatClampNeg)).toNatClampNeg)).toNatClampNeg)) hi hl Φ) ∧
  (¬ (0 ≤ (hi 7 (v1.toNatClampNeg))) →
    wbM_compute_111 v1 v2 q0 (hi 16 ((hi 6 (v1.toNatClampNeg)).toNatClampNeg)) (((1 : Int32) <<< ((hi 16 ((hi 6 (v1.toNatClampNeg)).toNatClampNeg)) &&& 31)) - (1 : Int32)) (hi 16 ((hi 6 (v1.toNatClampNeg)).toNatClampNeg)) hi hl Φ)
def wbM_compute_29 (v1 : Int32) (q0 : Int32) (hi : HI) (hl : HL) (Φ : Int32 → HI → HL → Prop) : Prop :=
  vp_in v1 21 ∧
  (0 ≤ (hi 8 (v1.toNatClampNeg)) →
    vp_in v1 21 ∧
    vp_in v1 21 ∧
    wpM_get (hi 8 (v1.toNatClampNeg)) (hi 11 (v1.toNatClampNeg)) hi hl (fun r4 hi5 hl6 =>
      wbM_compute_59 v1 q0 r4 hi5 hl6 Φ)) ∧
  (¬ (0 ≤ (hi 8 (v1.toNatClampNeg))) →
    wbM_compute_59 v1 q0 (0 : Int32) hi hl Φ)
def wbM_compute_0 (v1 : Int32) (hi : HI) (hl : HL) (Φ : Int32 → HI → HL → Prop) : Prop :=
  vp_in v1 21 ∧
  (0 ≤ (hi 7 (v1.toNatClampNeg)) →
    vp_in v1 21 ∧
    vp_in v1 21 ∧
    wpM_get (hi 7 (v1.toNatClampNeg)) (hi 10 (v1.toNatClampNeg)) hi hl (fun r4 hi5 hl6 =>
      wbM_compute_29 v1 r4 hi5 hl6 Φ)) ∧
  (¬ (0 ≤ (hi 7 (v1.toNatClampNeg))) →
    wbM_compute_29 v1 (0 : Int32) hi hl Φ)
def wpM_compute (v1 : Int32) (hi : HI) (hl : HL) (Φ : Int32 → HI → HL → Prop) : Prop :=
  wbM_compute_0 v1 hi hl Φ
def wbM_settle_39 (k2 : (Int32 → HI → HL → Prop)) (v1 : Int32) (hi : HI) (hl : HL) (Φ : HI → HL → Prop) : Prop :=
  k2 (v1 + Int32.ofInt (1)) hi hl
def wbM_settle_2 : Nat → Int32 → HI → HL → (HI → HL → Prop) → Prop
  | 0, _, _, _, _ => False
  | n + 1, v1, hi, hl, Φ =>
    ((hi 0 6) ≤ v1 →
      Φ hi hl) ∧
    (¬ ((hi 0 6) ≤ v1) →
      wpM_isNode v1 hi hl (fun r1 hi2 hl3 =>
        (r1 = 0 →
          wbM_settle_39 (fun v1 hi hl => wbM_settle_2 n v1 hi hl Φ) v1 hi2 hl3 Φ) ∧
        (¬ (r1 = 0) →
          vp_in v1 21 ∧
          ((hi2 5 (v1.toNatClampNeg)) ≤ (2 : Int32) →
            wbM_settle_39 (fun v1 hi hl => wbM_settle_2 n v1 hi hl Φ) v1 hi2 hl3 Φ) ∧
          (¬ ((hi2 5 (v1.toNatClampNeg)) ≤ (2 : Int32)) →
            wpM_compute v1 hi2 hl3 (fun r5 hi6 hl7 =>
              vp_in v1 21 ∧
              wbM_settle_39 (fun v1 hi hl => wbM_settle_2 n v1 hi hl Φ) v1 (u2 hi6 17 (v1.toNatClampNeg) r5) hl7 Φ)))))
def wbM_settle_0 (hi : HI) (hl : HL) (Φ : HI → HL → Prop) : Prop :=
  (∃ fu, wbM_settle_2 fu (0 : Int32) hi hl Φ)
def wpM_settle (hi : HI) (hl : HL) (Φ : HI → HL → Prop) : Prop :=
  wbM_settle_0 hi hl Φ
def wbM_advance_97 (k56 : (Int32 → HI → HL → Prop)) (v1 : Int32) (hi : HI) (hl : HL) (Φ : HI → HL → Prop) : Prop :=
  k56 (v1 + Int32.ofInt (1)) hi hl
def wbM_advance_56 : Nat → Int32 → HI → HL → (HI → HL → Prop) → Prop
  | 0, _, _, _, _ => False
  | n + 1, v1, hi, hl, Φ =>
    ((hi 0 6) ≤ v1 →
      Φ hi hl) ∧
    (¬ ((hi 0 6) ≤ v1) →
      vp_in v1 21 ∧
      ((hi 5 (v1.toNatClampNeg)) = (28 : Int32) →
        vp_in v1 21 ∧
        vp_in v1 21 ∧
        vp_in (hi 7 (v1.toNatClampNeg)) 21 ∧
        vp_in (hi 7 (v1.toNatClampNeg)) 21 ∧
        wbM_advance_97 (fun v1 hi hl => wbM_advance_56 n v1 hi hl Φ) v1 (u2 hi 17 ((hi 7 (v1.toNatClampNeg)).toNatClampNeg) (hi 18 ((hi 7 (v1.toNatClampNeg)).toNatClampNeg))) hl Φ) ∧
      (¬ ((hi 5 (v1.toNatClampNeg)) = (28 : Int32)) →
        wbM_advance_97 (fun v1 hi hl => wbM_advance_56 n v1 hi hl Φ) v1 hi hl Φ))
def wbM_advance_48 (k2 : (Int32 → HI → HL → Prop)) (v1 : Int32) (hi : HI) (hl : HL) (Φ : HI → HL → Prop) : Prop :=
  k2 (v1 + Int32.ofInt (1)) hi hl
def wbM_advance_2 : Nat → Int32 → HI → HL → (HI → HL → Prop) → Prop
  | 0, _, _, _, _ => False
  | n + 1, v1, hi, hl, Φ =>
    ((hi 0 6) ≤ v1 →
      (∃ fu, wbM_advance_56 fu (0 : Int32) hi hl Φ)) ∧
    (¬ ((hi 0 6) ≤ v1) →
      vp_in v1 21 ∧
      ((hi 5 (v1.toNatClampNeg)) = (28 : Int32) →
        vp_in v1 21 ∧
        vp_in v1 21 ∧
        vp_in v1 21 ∧
        wpM_get (hi 8 (v1.toNatClampNeg)) (hi 11 (v1.toNatClampNeg)) hi hl (fun r5 hi6 hl7 =>
          vp_in (hi 7 (v1.toNatClampNeg)) 21 ∧
          wbM_advance_48 (fun v1 hi hl => wbM_advance_2 n v1 hi hl Φ) v1 (u2 hi6 18 ((hi 7 (v1.toNatClampNeg)).toNatClampNeg) r5) hl7 Φ)) ∧
      (¬ ((hi 5 (v1.toNatClampNeg)) = (28 : Int32)) →
        wbM_advance_48 (fun v1 hi hl => wbM_advance_2 n v1 hi hl Φ) v1 hi hl Φ))
def wbM_advance_0 (hi : HI) (hl : HL) (Φ : HI → HL → Prop) : Prop :=
  (∃ fu, wbM_advance_2 fu (0 : Int32) hi hl Φ)
def wpM_advance (hi : HI) (hl : HL) (Φ : HI → HL → Prop) : Prop :=
  wbM_advance_0 hi hl Φ
def wbM_initz_95 (k49 : (Int32 → HI → HL → Prop)) (v1 : Int32) (hi : HI) (hl : HL) (Φ : HI → HL → Prop) : Prop :=
  k49 (v1 + Int32.ofInt (1)) hi hl
def wbM_initz_49 : Nat → Int32 → HI → HL → (HI → HL → Prop) → Prop
  | 0, _, _, _, _ => False
  | n + 1, v1, hi, hl, Φ =>
    ((hi 0 6) ≤ v1 →
      Φ hi hl) ∧
    (¬ ((hi 0 6) ≤ v1) →
      vp_in v1 21 ∧
      ((hi 5 (v1.toNatClampNeg)) = (27 : Int32) →
        vp_in v1 21 ∧
        vp_in v1 21 ∧
        vp_in v1 21 ∧
        wpM_get (hi 8 (v1.toNatClampNeg)) (hi 11 (v1.toNatClampNeg)) hi hl (fun r5 hi6 hl7 =>
          vp_in (hi 7 (v1.toNatClampNeg)) 21 ∧
          wbM_initz_95 (fun v1 hi hl => wbM_initz_49 n v1 hi hl Φ) v1 (u2 hi6 17 ((hi 7 (v1.toNatClampNeg)).toNatClampNeg) r5) hl7 Φ)) ∧
      (¬ ((hi 5 (v1.toNatClampNeg)) = (27 : Int32)) →
        wbM_initz_95 (fun v1 hi hl => wbM_initz_49 n v1 hi hl Φ) v1 hi hl Φ))
def wbM_initz_37 (k2 : (Int32 → HI → HL → Prop)) (v1 : Int32) (hi : HI) (hl : HL) (Φ : HI → HL → Prop) : Prop :=
  k2 (v1 + Int32.ofInt (1)) hi hl
def wbM_initz_30 (k2 : (Int32 → HI → HL → Prop)) (v1 : Int32) (hi : HI) (hl : HL) (Φ : HI → HL → Prop) : Prop :=
  vp_in v1 21 ∧
  wbM_initz_37 k2 v1 (u2 hi 17 (v1.toNatClampNeg) (0 : Int32)) hl Φ
def wbM_initz_2 : Nat → Int32 → HI → HL → (HI → HL → Prop) → Prop
  | 0, _, _, _, _ => False
  | n + 1, v1, hi, hl, Φ =>
    ((hi 0 6) ≤ v1 →
      wpM_settle hi hl (fun hi2 hl3 =>
        (∃ fu, wbM_initz_49 fu (0 : Int32) hi2 hl3 Φ))) ∧
    (¬ ((hi 0 6) ≤ v1) →
      vp_in v1 21 ∧
      ((hi 5 (v1.toNatClampNeg)) = (1 : Int32) →
        wbM_initz_30 (fun v1 hi hl => wbM_initz_2 n v1 hi hl Φ) v1 hi hl Φ) ∧
      (¬ ((hi 5 (v1.toNatClampNeg)) = (1 : Int32)) →
        vp_in v1 21 ∧
        ((hi 5 (v1.toNatClampNeg)) = (2 : Int32) →
          wbM_initz_30 (fun v1 hi hl => wbM_initz_2 n v1 hi hl Φ) v1 hi hl Φ) ∧
        (¬ ((hi 5 (v1.toNatClampNeg)) = (2 : Int32)) →
          wbM_initz_37 (fun v1 hi hl => wbM_initz_2 n v1 hi hl Φ) v1 hi hl Φ)))
def wbM_initz_0 (hi : HI) (hl : HL) (Φ : HI → HL → Prop) : Prop :=
  (∃ fu, wbM_initz_2 fu (0 : Int32) hi hl Φ)
def wpM_initz (hi : HI) (hl : HL) (Φ : HI → HL → Prop) : Prop :=
  wbM_initz_0 hi hl Φ
def wbM_chosen_24 (hi : HI) (hl : HL) (Φ : Int32 → HI → HL → Prop) : Prop :=
  i01 (0 : Int32) ∧
  Φ (0 : Int32) hi hl
def wbM_chosen_0 (v1 : Int32) (hi : HI) (hl : HL) (Φ : Int32 → HI → HL → Prop) : Prop :=
  vp_in v1 21 ∧
  ((hi 5 (v1.toNatClampNeg)) = (2 : Int32) →
    wpM_has (27 : Int32) v1 hi hl (fun r2 hi3 hl4 =>
      (r2 = 0 →
        i01 (1 : Int32) ∧
        Φ (1 : Int32) hi3 hl4) ∧
      (¬ (r2 = 0) →
        wbM_chosen_24 hi3 hl4 Φ))) ∧
  (¬ ((hi 5 (v1.toNatClampNeg)) = (2 : Int32)) →
    wbM_chosen_24 hi hl Φ)
def wpM_chosen (v1 : Int32) (hi : HI) (hl : HL) (Φ : Int32 → HI → HL → Prop) : Prop :=
  wbM_chosen_0 v1 hi hl Φ
def wbM_holds_52 (k4 : (Int32 → Int32 → HI → HL → Prop)) (v2 : Int32) (q0 : Int32) (hi : HI) (hl : HL) (Φ : Int32 → HI → HL → Prop) : Prop :=
  k4 q0 (v2 + Int32.ofInt (1)) hi hl
def wbM_holds_51 (k4 : (Int32 → Int32 → HI → HL → Prop)) (v2 : Int32) (hi : HI) (hl : HL) (Φ : Int32 → HI → HL → Prop) : Prop :=
  wbM_holds_52 k4 v2 (0 : Int32) hi hl Φ
def wbM_holds_47 (k4 : (Int32 → Int32 → HI → HL → Prop)) (v2 : Int32) (hi : HI) (hl : HL) (Φ : Int32 → HI → HL → Prop) : Prop :=
  wbM_holds_52 k4 v2 (1 : Int32) hi hl Φ
def wbM_holds_4 : Nat → Int32 → Int32 → HI → HL → (Int32 → HI → HL → Prop) → Prop
  | 0, _, _, _, _, _ => False
  | n + 1, v1, v2, hi, hl, Φ =>
    ((hi 0 6) ≤ v2 →
      i01 v1 ∧
      Φ v1 hi hl) ∧
    (¬ ((hi 0 6) ≤ v2) →
      (v1 = 0 →
        wbM_holds_51 (fun v1 v2 hi hl => wbM_holds_4 n v1 v2 hi hl Φ) v2 hi hl Φ) ∧
      (¬ (v1 = 0) →
        vp_in v2 21 ∧
        ((hi 5 (v2.toNatClampNeg)) = (30 : Int32) →
          vp_in v2 21 ∧
          vp_in v2 21 ∧
          wpM_get (hi 7 (v2.toNatClampNeg)) (hi 10 (v2.toNatClampNeg)) hi hl (fun r5 hi6 hl7 =>
            (r5 = (1 : Int32) →
              wbM_holds_47 (fun v1 v2 hi hl => wbM_holds_4 n v1 v2 hi hl Φ) v2 hi6 hl7 Φ) ∧
            (¬ (r5 = (1 : Int32)) →
              wbM_holds_51 (fun v1 v2 hi hl => wbM_holds_4 n v1 v2 hi hl Φ) v2 hi6 hl7 Φ))) ∧
        (¬ ((hi 5 (v2.toNatClampNeg)) = (30 : Int32)) →
          wbM_holds_47 (fun v1 v2 hi hl => wbM_holds_4 n v1 v2 hi hl Φ) v2 hi hl Φ)))
def wbM_holds_0 (hi : HI) (hl : HL) (Φ : Int32 → HI → HL → Prop) : Prop :=
  (∃ fu, wbM_holds_4 fu (1 : Int32) (0 : Int32) hi hl Φ)
def wpM_holds (hi : HI) (hl : HL) (Φ : Int32 → HI → HL → Prop) : Prop :=
  wbM_holds_0 hi hl Φ
def wbM_isBad_52 (k4 : (Int32 → Int32 → HI → HL → Prop)) (v2 : Int32) (q0 : Int32) (hi : HI) (hl : HL) (Φ : Int32 → HI → HL → Prop) : Prop :=
  k4 q0 (v2 + Int32.ofInt (1)) hi hl
def wbM_isBad_47 (k4 : (Int32 → Int32 → HI → HL → Prop)) (v2 : Int32) (hi : HI) (hl : HL) (Φ : Int32 → HI → HL → Prop) : Prop :=
  wbM_isBad_52 k4 v2 (1 : Int32) hi hl Φ
def wbM_isBad_51 (k4 : (Int32 → Int32 → HI → HL → Prop)) (v2 : Int32) (hi : HI) (hl : HL) (Φ : Int32 → HI → HL → Prop) : Prop :=
  wbM_isBad_52 k4 v2 (0 : Int32) hi hl Φ
def wbM_isBad_4 : Nat → Int32 → Int32 → HI → HL → (Int32 → HI → HL → Prop) → Prop
  | 0, _, _, _, _, _ => False
  | n + 1, v1, v2, hi, hl, Φ =>
    ((hi 0 6) ≤ v2 →
      i01 v1 ∧
      Φ v1 hi hl) ∧
    (¬ ((hi 0 6) ≤ v2) →
      (v1 = 0 →
        vp_in v2 21 ∧
        ((hi 5 (v2.toNatClampNeg)) = (29 : Int32) →
          vp_in v2 21 ∧
          vp_in v2 21 ∧
          wpM_get (hi 7 (v2.toNatClampNeg)) (hi 10 (v2.toNatClampNeg)) hi hl (fun r5 hi6 hl7 =>
            (r5 = (1 : Int32) →
              wbM_isBad_47 (fun v1 v2 hi hl => wbM_isBad_4 n v1 v2 hi hl Φ) v2 hi6 hl7 Φ) ∧
            (¬ (r5 = (1 : Int32)) →
              wbM_isBad_51 (fun v1 v2 hi hl => wbM_isBad_4 n v1 v2 hi hl Φ) v2 hi6 hl7 Φ))) ∧
        (¬ ((hi 5 (v2.toNatClampNeg)) = (29 : Int32)) →
          wbM_isBad_51 (fun v1 v2 hi hl => wbM_isBad_4 n v1 v2 hi hl Φ) v2 hi hl Φ)) ∧
      (¬ (v1 = 0) →
        wbM_isBad_47 (fun v1 v2 hi hl => wbM_isBad_4 n v1 v2 hi hl Φ) v2 hi hl Φ))
def wbM_isBad_0 (hi : HI) (hl : HL) (Φ : Int32 → HI → HL → Prop) : Prop :=
  (∃ fu, wbM_isBad_4 fu (0 : Int32) (0 : Int32) hi hl Φ)
def wpM_isBad (hi : HI) (hl : HL) (Φ : Int32 → HI → HL → Prop) : Prop :=
  wbM_isBad_0 hi hl Φ
def wbM_deal_83 (k5 : (Int32 → Int32 → Int32 → HI → HL → Prop)) (v2 : Int32) (v3 : Int32) (v4 : Int32) (hi : HI) (hl : HL) (Φ : HI → HL → Prop) : Prop :=
  k5 v2 v3 (v4 + Int32.ofInt (1)) hi hl
def wbM_deal_43 (k5 : (Int32 → Int32 → Int32 → HI → HL → Prop)) (v2 : Int32) (v3 : Int32) (v4 : Int32) (q0 : Int32) (hi : HI) (hl : HL) (Φ : HI → HL → Prop) : Prop :=
  (q0 = 0 →
    wbM_deal_83 k5 v2 v3 v4 hi hl Φ) ∧
  (¬ (q0 = 0) →
    vp_in v4 21 ∧
    wpM_bits (hi 6 (v4.toNatClampNeg)) hi hl (fun r2 hi3 hl4 =>
      vp_in v4 21 ∧
      wbM_deal_83 k5 v2 (v3 >>> (r2 &&& 31)) v4 (u2 hi3 17 (v4.toNatClampNeg) (v3 &&& (((1 : Int32) <<< (r2 &&& 31)) - (1 : Int32)))) hl4 Φ))
def wbM_deal_5 : Nat → Int32 → Int32 → Int32 → HI → HL → (HI → HL → Prop) → Prop
  | 0, _, _, _, _, _, _ => False
  | n + 1, v2, v3, v4, hi, hl, Φ =>
    ((hi 0 6) ≤ v4 →
      wpM_settle hi hl (fun hi2 hl3 =>
        Φ hi2 hl3)) ∧
    (¬ ((hi 0 6) ≤ v4) →
      (v2 = 0 →
        vp_in v4 21 ∧
        ((hi 5 (v4.toNatClampNeg)) = (1 : Int32) →
          wbM_deal_43 (fun v2 v3 v4 hi hl => wbM_deal_5 n v2 v3 v4 hi hl Φ) v2 v3 v4 (1 : Int32) hi hl Φ) ∧
        (¬ ((hi 5 (v4.toNatClampNeg)) = (1 : Int32)) →
          wbM_deal_43 (fun v2 v3 v4 hi hl => wbM_deal_5 n v2 v3 v4 hi hl Φ) v2 v3 v4 (0 : Int32) hi hl Φ)) ∧
      (¬ (v2 = 0) →
        wpM_chosen v4 hi hl (fun r5 hi6 hl7 =>
          wbM_deal_43 (fun v2 v3 v4 hi hl => wbM_deal_5 n v2 v3 v4 hi hl Φ) v2 v3 v4 r5 hi6 hl7 Φ)))
def wbM_deal_0 (v1 : Int32) (v2 : Int32) (hi : HI) (hl : HL) (Φ : HI → HL → Prop) : Prop :=
  (∃ fu, wbM_deal_5 fu v2 v1 (0 : Int32) hi hl Φ)
def wpM_deal (v1 : Int32) (v2 : Int32) (hi : HI) (hl : HL) (Φ : HI → HL → Prop) : Prop :=
  wbM_deal_0 v1 v2 hi hl Φ
def wbM_remember_2 : Nat → Int32 → HI → HL → (HI → HL → Prop) → Prop
  | 0, _, _, _, _ => False
  | n + 1, v1, hi, hl, Φ =>
    ((hi 0 6) ≤ v1 →
      Φ hi hl) ∧
    (¬ ((hi 0 6) ≤ v1) →
      vp_in v1 21 ∧
      vp_in v1 21 ∧
      wbM_remember_2 n (v1 + Int32.ofInt (1)) (u2 hi 19 (v1.toNatClampNeg) (hi 17 (v1.toNatClampNeg))) hl Φ)
def wbM_remember_0 (hi : HI) (hl : HL) (Φ : HI → HL → Prop) : Prop :=
  (∃ fu, wbM_remember_2 fu (0 : Int32) hi hl Φ)
def wpM_remember (hi : HI) (hl : HL) (Φ : HI → HL → Prop) : Prop :=
  wbM_remember_0 hi hl Φ
def wbM_recall_2 : Nat → Int32 → HI → HL → (HI → HL → Prop) → Prop
  | 0, _, _, _, _ => False
  | n + 1, v1, hi, hl, Φ =>
    ((hi 0 6) ≤ v1 →
      wpM_settle hi hl (fun hi2 hl3 =>
        Φ hi2 hl3)) ∧
    (¬ ((hi 0 6) ≤ v1) →
      vp_in v1 21 ∧
      vp_in v1 21 ∧
      wbM_recall_2 n (v1 + Int32.ofInt (1)) (u2 hi 17 (v1.toNatClampNeg) (hi 19 (v1.toNatClampNeg))) hl Φ)
def wbM_recall_0 (hi : HI) (hl : HL) (Φ : HI → HL → Prop) : Prop :=
  (∃ fu, wbM_recall_2 fu (0 : Int32) hi hl Φ)
def wpM_recall (hi : HI) (hl : HL) (Φ : HI → HL → Prop) : Prop :=
  wbM_recall_0 hi hl Φ
def wbM_begin_0 (v1 : Int32) (hi : HI) (hl : HL) (Φ : HI → HL → Prop) : Prop :=
  wpM_initz hi hl (fun hi2 hl3 =>
    wpM_deal v1 (1 : Int32) hi2 hl3 (fun hi5 hl6 =>
      i01 (1 : Int32) ∧
      wpM_remember (u2 hi5 0 23 (1 : Int32)) hl6 (fun hi9 hl10 =>
        Φ hi9 hl10)))
def wpM_begin (v1 : Int32) (hi : HI) (hl : HL) (Φ : HI → HL → Prop) : Prop :=
  wbM_begin_0 v1 hi hl Φ
def wbM_feed_0 (v1 : Int32) (hi : HI) (hl : HL) (Φ : Int32 → HI → HL → Prop) : Prop :=
  ((hi 0 23) = 0 →
    i01 (0 : Int32) ∧
    Φ (0 : Int32) hi hl) ∧
  (¬ ((hi 0 23) = 0) →
    wpM_recall hi hl (fun hi2 hl3 =>
      wpM_deal v1 (0 : Int32) hi2 hl3 (fun hi5 hl6 =>
        wpM_remember hi5 hl6 (fun hi8 hl9 =>
          i01 (1 : Int32) ∧
          Φ (1 : Int32) hi8 hl9))))
def wpM_feed (v1 : Int32) (hi : HI) (hl : HL) (Φ : Int32 → HI → HL → Prop) : Prop :=
  wbM_feed_0 v1 hi hl Φ
def wbM_step_0 (hi : HI) (hl : HL) (Φ : Int32 → HI → HL → Prop) : Prop :=
  ((hi 0 23) = 0 →
    i01 (0 : Int32) ∧
    Φ (0 : Int32) hi hl) ∧
  (¬ ((hi 0 23) = 0) →
    wpM_recall hi hl (fun hi2 hl3 =>
      wpM_advance hi2 hl3 (fun hi5 hl6 =>
        wpM_deal (0 : Int32) (0 : Int32) hi5 hl6 (fun hi8 hl9 =>
          wpM_remember hi8 hl9 (fun hi11 hl12 =>
            i01 (1 : Int32) ∧
            Φ (1 : Int32) hi11 hl12)))))
def wpM_step (hi : HI) (hl : HL) (Φ : Int32 → HI → HL → Prop) : Prop :=
  wbM_step_0 hi hl Φ
def wbM_value_0 (v1 : Int32) (hi : HI) (hl : HL) (Φ : Int32 → HI → HL → Prop) : Prop :=
  wpM_lineOf v1 hi hl (fun r1 hi2 hl3 =>
    ((hi2 0 23) = 0 →
      Φ (-1 : Int32) hi2 hl3) ∧
    (¬ ((hi2 0 23) = 0) →
      wpM_isNode r1 hi2 hl3 (fun r4 hi5 hl6 =>
        (r4 = 0 →
          Φ (-1 : Int32) hi5 hl6) ∧
        (¬ (r4 = 0) →
          wpM_recall hi5 hl6 (fun hi8 hl9 =>
            vp_in r1 21 ∧
            Φ (hi8 17 (r1.toNatClampNeg)) hi8 hl9)))))
def wpM_value (v1 : Int32) (hi : HI) (hl : HL) (Φ : Int32 → HI → HL → Prop) : Prop :=
  wbM_value_0 v1 hi hl Φ
def wbM_width_50 (k4 : (Int32 → Int32 → Int32 → HI → HL → Prop)) (v1 : Int32) (v3 : Int32) (q0 : Int32) (hi : HI) (hl : HL) (Φ : Int32 → HI → HL → Prop) : Prop :=
  k4 v1 q0 (v3 + Int32.ofInt (1)) hi hl
def wbM_width_34 (k4 : (Int32 → Int32 → Int32 → HI → HL → Prop)) (v1 : Int32) (v2 : Int32) (v3 : Int32) (hi : HI) (hl : HL) (Φ : Int32 → HI → HL → Prop) : Prop :=
  vp_in v3 21 ∧
  wpM_bits (hi 6 (v3.toNatClampNeg)) hi hl (fun r2 hi3 hl4 =>
    wbM_width_50 k4 v1 v3 (v2 + r2) hi3 hl4 Φ)
def wbM_width_26 (k4 : (Int32 → Int32 → Int32 → HI → HL → Prop)) (v1 : Int32) (v2 : Int32) (v3 : Int32) (hi : HI) (hl : HL) (Φ : Int32 → HI → HL → Prop) : Prop :=
  wpM_chosen v3 hi hl (fun r1 hi2 hl3 =>
    (r1 = 0 →
      wbM_width_50 k4 v1 v3 v2 hi2 hl3 Φ) ∧
    (¬ (r1 = 0) →
      wbM_width_34 k4 v1 v2 v3 hi2 hl3 Φ))
def wbM_width_4 : Nat → Int32 → Int32 → Int32 → HI → HL → (Int32 → HI → HL → Prop) → Prop
  | 0, _, _, _, _, _, _ => False
  | n + 1, v1, v2, v3, hi, hl, Φ =>
    ((hi 0 6) ≤ v3 →
      Φ v2 hi hl) ∧
    (¬ ((hi 0 6) ≤ v3) →
      (v1 = 0 →
        wbM_width_26 (fun v1 v2 v3 hi hl => wbM_width_4 n v1 v2 v3 hi hl Φ) v1 v2 v3 hi hl Φ) ∧
      (¬ (v1 = 0) →
        vp_in v3 21 ∧
        ((hi 5 (v3.toNatClampNeg)) = (2 : Int32) →
          wbM_width_34 (fun v1 v2 v3 hi hl => wbM_width_4 n v1 v2 v3 hi hl Φ) v1 v2 v3 hi hl Φ) ∧
        (¬ ((hi 5 (v3.toNatClampNeg)) = (2 : Int32)) →
          wbM_width_26 (fun v1 v2 v3 hi hl => wbM_width_4 n v1 v2 v3 hi hl Φ) v1 v2 v3 hi hl Φ)))
def wbM_width_0 (v1 : Int32) (hi : HI) (hl : HL) (Φ : Int32 → HI → HL → Prop) : Prop :=
  (∃ fu, wbM_width_4 fu v1 (0 : Int32) (0 : Int32) hi hl Φ)
def wpM_width (v1 : Int32) (hi : HI) (hl : HL) (Φ : Int32 → HI → HL → Prop) : Prop :=
  wbM_width_0 v1 hi hl Φ
def wbM_start_86 (k10 : (Int32 → Int32 → Int32 → Int32 → HI → HL → Prop)) (v1 : Int32) (v3 : Int32) (v4 : Int32) (v5 : Int32) (hi : HI) (hl : HL) (Φ : Int32 → HI → HL → Prop) : Prop :=
  k10 v1 v3 v4 (v5 + Int32.ofInt (1)) hi hl
def wbM_start_43 (k10 : (Int32 → Int32 → Int32 → Int32 → HI → HL → Prop)) (v1 : Int32) (v3 : Int32) (v4 : Int32) (v5 : Int32) (hi : HI) (hl : HL) (Φ : Int32 → HI → HL → Prop) : Prop :=
  vp_in v5 21 ∧
  wpM_bits (hi 6 (v5.toNatClampNeg)) hi hl (fun r2 hi3 hl4 =>
    vp_in v5 21 ∧
    wpM_bits (hi3 6 (v5.toNatClampNeg)) hi3 hl4 (fun r6 hi7 hl8 =>
      vp_in v5 21 ∧
      wbM_start_86 k10 v1 v3 (v4 - r2) v5 (u2 hi7 17 (v5.toNatClampNeg) ((v1 >>> ((v4 - r2) &&& 31)) &&& (((1 : Int32) <<< (r6 &&& 31)) - (1 : Int32)))) hl8 Φ))
def wbM_start_34 (k10 : (Int32 → Int32 → Int32 → Int32 → HI → HL → Prop)) (v1 : Int32) (v3 : Int32) (v4 : Int32) (v5 : Int32) (hi : HI) (hl : HL) (Φ : Int32 → HI → HL → Prop) : Prop :=
  wpM_chosen v5 hi hl (fun r1 hi2 hl3 =>
    (r1 = 0 →
      wbM_start_86 k10 v1 v3 v4 v5 hi2 hl3 Φ) ∧
    (¬ (r1 = 0) →
      wbM_start_43 k10 v1 v3 v4 v5 hi2 hl3 Φ))
def wbM_start_10 : Nat → Int32 → Int32 → Int32 → Int32 → HI → HL → (Int32 → HI → HL → Prop) → Prop
  | 0, _, _, _, _, _, _, _ => False
  | n + 1, v1, v3, v4, v5, hi, hl, Φ =>
    ((hi 0 6) ≤ v5 →
      Φ v4 hi hl) ∧
    (¬ ((hi 0 6) ≤ v5) →
      (v3 = 0 →
        wbM_start_34 (fun v1 v3 v4 v5 hi hl => wbM_start_10 n v1 v3 v4 v5 hi hl Φ) v1 v3 v4 v5 hi hl Φ) ∧
      (¬ (v3 = 0) →
        vp_in v5 21 ∧
        ((hi 5 (v5.toNatClampNeg)) = (2 : Int32) →
          wbM_start_43 (fun v1 v3 v4 v5 hi hl => wbM_start_10 n v1 v3 v4 v5 hi hl Φ) v1 v3 v4 v5 hi hl Φ) ∧
        (¬ ((hi 5 (v5.toNatClampNeg)) = (2 : Int32)) →
          wbM_start_34 (fun v1 v3 v4 v5 hi hl => wbM_start_10 n v1 v3 v4 v5 hi hl Φ) v1 v3 v4 v5 hi hl Φ)))
def wbM_start_0 (v1 : Int32) (v2 : Int32) (v3 : Int32) (hi : HI) (hl : HL) (Φ : Int32 → HI → HL → Prop) : Prop :=
  wpM_initz hi hl (fun hi2 hl3 =>
    (∃ fu, wbM_start_10 fu v1 v3 v2 (0 : Int32) hi2 hl3 Φ))
def wpM_start (v1 : Int32) (v2 : Int32) (v3 : Int32) (hi : HI) (hl : HL) (Φ : Int32 → HI → HL → Prop) : Prop :=
  wbM_start_0 v1 v2 v3 hi hl Φ
def wbM_put_65 (k5 : (Int32 → Int32 → Int32 → HI → HL → Prop)) (v1 : Int32) (v3 : Int32) (v4 : Int32) (hi : HI) (hl : HL) (Φ : Int32 → HI → HL → Prop) : Prop :=
  k5 v1 v3 (v4 + Int32.ofInt (1)) hi hl
def wbM_put_5 : Nat → Int32 → Int32 → Int32 → HI → HL → (Int32 → HI → HL → Prop) → Prop
  | 0, _, _, _, _, _, _ => False
  | n + 1, v1, v3, v4, hi, hl, Φ =>
    ((hi 0 6) ≤ v4 →
      wpM_settle hi hl (fun hi2 hl3 =>
        Φ v3 hi2 hl3)) ∧
    (¬ ((hi 0 6) ≤ v4) →
      vp_in v4 21 ∧
      ((hi 5 (v4.toNatClampNeg)) = (1 : Int32) →
        vp_in v4 21 ∧
        wpM_bits (hi 6 (v4.toNatClampNeg)) hi hl (fun r6 hi7 hl8 =>
          vp_in v4 21 ∧
          wpM_bits (hi7 6 (v4.toNatClampNeg)) hi7 hl8 (fun r10 hi11 hl12 =>
            vp_in v4 21 ∧
            wbM_put_65 (fun v1 v3 v4 hi hl => wbM_put_5 n v1 v3 v4 hi hl Φ) v1 (v3 - r6) v4 (u2 hi11 17 (v4.toNatClampNeg) ((v1 >>> ((v3 - r6) &&& 31)) &&& (((1 : Int32) <<< (r10 &&& 31)) - (1 : Int32)))) hl12 Φ))) ∧
      (¬ ((hi 5 (v4.toNatClampNeg)) = (1 : Int32)) →
        wbM_put_65 (fun v1 v3 v4 hi hl => wbM_put_5 n v1 v3 v4 hi hl Φ) v1 v3 v4 hi hl Φ))
def wbM_put_0 (v1 : Int32) (v2 : Int32) (hi : HI) (hl : HL) (Φ : Int32 → HI → HL → Prop) : Prop :=
  (∃ fu, wbM_put_5 fu v1 v2 (0 : Int32) hi hl Φ)
def wpM_put (v1 : Int32) (v2 : Int32) (hi : HI) (hl : HL) (Φ : Int32 → HI → HL → Prop) : Prop :=
  wbM_put_0 v1 v2 hi hl Φ
def wbM_states_45 (k4 : (Int32 → Int32 → HI → HL → Prop)) (v2 : Int32) (q0 : Int32) (hi : HI) (hl : HL) (Φ : Int32 → HI → HL → Prop) : Prop :=
  k4 q0 (v2 + Int32.ofInt (1)) hi hl
def wbM_states_4 : Nat → Int32 → Int32 → HI → HL → (Int32 → HI → HL → Prop) → Prop
  | 0, _, _, _, _, _ => False
  | n + 1, v1, v2, hi, hl, Φ =>
    ((hi 0 6) ≤ v2 →
      Φ v1 hi hl) ∧
    (¬ ((hi 0 6) ≤ v2) →
      vp_in v2 21 ∧
      ((hi 5 (v2.toNatClampNeg)) = (2 : Int32) →
        vp_in v2 21 ∧
        wpM_bits (hi 6 (v2.toNatClampNeg)) hi hl (fun r3 hi4 hl5 =>
          vp_in v2 21 ∧
          wbM_states_45 (fun v1 v2 hi hl => wbM_states_4 n v1 v2 hi hl Φ) v2 ((v1 <<< (r3 &&& 31)) + (hi4 17 (v2.toNatClampNeg))) hi4 hl5 Φ)) ∧
      (¬ ((hi 5 (v2.toNatClampNeg)) = (2 : Int32)) →
        wbM_states_45 (fun v1 v2 hi hl => wbM_states_4 n v1 v2 hi hl Φ) v2 v1 hi hl Φ))
def wbM_states_0 (hi : HI) (hl : HL) (Φ : Int32 → HI → HL → Prop) : Prop :=
  (∃ fu, wbM_states_4 fu (0 : Int32) (0 : Int32) hi hl Φ)
def wpM_states (hi : HI) (hl : HL) (Φ : Int32 → HI → HL → Prop) : Prop :=
  wbM_states_0 hi hl Φ
def wbM_leads_27 (k12 : (Int32 → Int32 → Int32 → Int32 → HI → HL → Prop)) (v1 : Int32) (v3 : Int32) (v4 : Int32) (v5 : Int32) (hi : HI) (hl : HL) (Φ : Int32 → HI → HL → Prop) : Prop :=
  wpM_put v1 v4 hi hl (fun r1 hi2 hl3 =>
    wpM_holds hi2 hl3 (fun r4 hi5 hl6 =>
      (r4 = 0 →
        i01 (0 : Int32) ∧
        Φ (0 : Int32) hi5 hl6) ∧
      (¬ (r4 = 0) →
        k12 v1 v3 r1 (v5 + Int32.ofInt (1)) hi5 hl6)))
def wbM_leads_12 : Nat → Int32 → Int32 → Int32 → Int32 → HI → HL → (Int32 → HI → HL → Prop) → Prop
  | 0, _, _, _, _, _, _, _ => False
  | n + 1, v1, v3, v4, v5, hi, hl, Φ =>
    (v3 < v5 →
      wpM_isBad hi hl (fun r1 hi2 hl3 =>
        i01 r1 ∧
        Φ r1 hi2 hl3)) ∧
    (¬ (v3 < v5) →
      (v5 ≤ 0 →
        wbM_leads_27 (fun v1 v3 v4 v5 hi hl => wbM_leads_12 n v1 v3 v4 v5 hi hl Φ) v1 v3 v4 v5 hi hl Φ) ∧
      (¬ (v5 ≤ 0) →
        wpM_advance hi hl (fun hi6 hl7 =>
          wbM_leads_27 (fun v1 v3 v4 v5 hi hl => wbM_leads_12 n v1 v3 v4 v5 hi hl Φ) v1 v3 v4 v5 hi6 hl7 Φ)))
def wbM_leads_0 (v1 : Int32) (v2 : Int32) (v3 : Int32) (hi : HI) (hl : HL) (Φ : Int32 → HI → HL → Prop) : Prop :=
  wpM_start v1 v2 (0 : Int32) hi hl (fun r1 hi2 hl3 =>
    (∃ fu, wbM_leads_12 fu v1 v3 r1 (0 : Int32) hi2 hl3 Φ))
def wpM_leads (v1 : Int32) (v2 : Int32) (v3 : Int32) (hi : HI) (hl : HL) (Φ : Int32 → HI → HL → Prop) : Prop :=
  wbM_leads_0 v1 v2 v3 hi hl Φ
def wbM_isStretch_126 (k12 : (Int32 → Int32 → Int32 → Int32 → HI → HL → Prop)) (v1 : Int32) (v3 : Int32) (v4 : Int32) (v5 : Int32) (q0 : Int32) (q1 : Int32) (hi : HI) (hl : HL) (Φ : Int32 → HI → HL → Prop) : Prop :=
  (q0 = q1 →
    k12 v1 v3 v4 (v5 + Int32.ofInt (1)) hi hl) ∧
  (¬ (q0 = q1) →
    i01 (0 : Int32) ∧
    Φ (0 : Int32) hi hl)
def wbM_isStretch_89 (k12 : (Int32 → Int32 → Int32 → Int32 → HI → HL → Prop)) (k55 : (Int32 → Int32 → Int32 → Int32 → Int32 → Int32 → HI → HL → Prop)) (v1 : Int32) (v3 : Int32) (v4 : Int32) (v5 : Int32) (v7 : Int32) (q0 : Int32) (hi : HI) (hl : HL) (Φ : Int32 → HI → HL → Prop) : Prop :=
  k55 v1 v3 v4 v5 q0 (v7 + Int32.ofInt (1)) hi hl
def wbM_isStretch_88 (k12 : (Int32 → Int32 → Int32 → Int32 → HI → HL → Prop)) (k55 : (Int32 → Int32 → Int32 → Int32 → Int32 → Int32 → HI → HL → Prop)) (v1 : Int32) (v3 : Int32) (v4 : Int32) (v5 : Int32) (v7 : Int32) (hi : HI) (hl : HL) (Φ : Int32 → HI → HL → Prop) : Prop :=
  wbM_isStretch_89 k12 k55 v1 v3 v4 v5 v7 (0 : Int32) hi hl Φ
def wbM_isStretch_55 (k12 : (Int32 → Int32 → Int32 → Int32 → HI → HL → Prop)) : Nat → Int32 → Int32 → Int32 → Int32 → Int32 → Int32 → HI → HL → (Int32 → HI → HL → Prop) → Prop
  | 0, _, _, _, _, _, _, _, _, _ => False
  | n + 1, v1, v3, v4, v5, v6, v7, hi, hl, Φ =>
    (v5 ≤ v7 →
      (v6 = 0 →
        i01 (0 : Int32) ∧
        Φ (0 : Int32) hi hl) ∧
      (¬ (v6 = 0) →
        wpM_holds hi hl (fun r2 hi3 hl4 =>
          (r2 = 0 →
            i01 (0 : Int32) ∧
            Φ (0 : Int32) hi3 hl4) ∧
          (¬ (r2 = 0) →
            wpM_isBad hi3 hl4 (fun r6 hi7 hl8 =>
              (v5 = (v3 + (1 : Int32)) →
                wbM_isStretch_126 k12 v1 v3 v4 v5 r6 (1 : Int32) hi7 hl8 Φ) ∧
              (¬ (v5 = (v3 + (1 : Int32))) →
                wbM_isStretch_126 k12 v1 v3 v4 v5 r6 (0 : Int32) hi7 hl8 Φ)))))) ∧
    (¬ (v5 ≤ v7) →
      (v6 = 0 →
        wbM_isStretch_88 k12 (fun v1 v3 v4 v5 v6 v7 hi hl => wbM_isStretch_55 k12 n v1 v3 v4 v5 v6 v7 hi hl Φ) v1 v3 v4 v5 v7 hi hl Φ) ∧
      (¬ (v6 = 0) →
        vp_in v7 8 ∧
        vp_in v5 8 ∧
        ((hi 20 (v7.toNatClampNeg)) = (hi 20 (v5.toNatClampNeg)) →
          wbM_isStretch_88 k12 (fun v1 v3 v4 v5 v6 v7 hi hl => wbM_isStretch_55 k12 n v1 v3 v4 v5 v6 v7 hi hl Φ) v1 v3 v4 v5 v7 hi hl Φ) ∧
        (¬ ((hi 20 (v7.toNatClampNeg)) = (hi 20 (v5.toNatClampNeg))) →
          wbM_isStretch_89 k12 (fun v1 v3 v4 v5 v6 v7 hi hl => wbM_isStretch_55 k12 n v1 v3 v4 v5 v6 v7 hi hl Φ) v1 v3 v4 v5 v7 (1 : Int32) hi hl Φ)))
def wbM_isStretch_29 (k12 : (Int32 → Int32 → Int32 → Int32 → HI → HL → Prop)) (v1 : Int32) (v3 : Int32) (v4 : Int32) (v5 : Int32) (hi : HI) (hl : HL) (Φ : Int32 → HI → HL → Prop) : Prop :=
  wpM_put v1 v4 hi hl (fun r1 hi2 hl3 =>
    wpM_states hi2 hl3 (fun r4 hi5 hl6 =>
      vp_in v5 8 ∧
      (∃ fu, wbM_isStretch_55 k12 fu v1 v3 r1 v5 (1 : Int32) (0 : Int32) (u2 hi5 20 (v5.toNatClampNeg) r4) hl6 Φ)))
def wbM_isStretch_12 : Nat → Int32 → Int32 → Int32 → Int32 → HI → HL → (Int32 → HI → HL → Prop) → Prop
  | 0, _, _, _, _, _, _, _ => False
  | n + 1, v1, v3, v4, v5, hi, hl, Φ =>
    ((v3 + (1 : Int32)) < v5 →
      i01 (1 : Int32) ∧
      Φ (1 : Int32) hi hl) ∧
    (¬ ((v3 + (1 : Int32)) < v5) →
      (v5 ≤ 0 →
        wbM_isStretch_29 (fun v1 v3 v4 v5 hi hl => wbM_isStretch_12 n v1 v3 v4 v5 hi hl Φ) v1 v3 v4 v5 hi hl Φ) ∧
      (¬ (v5 ≤ 0) →
        wpM_advance hi hl (fun hi3 hl4 =>
          wbM_isStretch_29 (fun v1 v3 v4 v5 hi hl => wbM_isStretch_12 n v1 v3 v4 v5 hi hl Φ) v1 v3 v4 v5 hi3 hl4 Φ)))
def wbM_isStretch_0 (v1 : Int32) (v2 : Int32) (v3 : Int32) (hi : HI) (hl : HL) (Φ : Int32 → HI → HL → Prop) : Prop :=
  wpM_start v1 v2 (1 : Int32) hi hl (fun r1 hi2 hl3 =>
    (∃ fu, wbM_isStretch_12 fu v1 v3 r1 (0 : Int32) hi2 hl3 Φ))
def wpM_isStretch (v1 : Int32) (v2 : Int32) (v3 : Int32) (hi : HI) (hl : HL) (Φ : Int32 → HI → HL → Prop) : Prop :=
  wbM_isStretch_0 v1 v2 v3 hi hl Φ
def wbM_places_0 (v1 : Int32) (v2 : Int32) (hi : HI) (hl : HL) (Φ : Int32 → HI → HL → Prop) : Prop :=
  wpM_total (1 : Int32) hi hl (fun r1 hi2 hl3 =>
    wpM_width v2 hi2 hl3 (fun r4 hi5 hl6 =>
      Φ (r4 + ((v1 + (1 : Int32)) * r1)) hi5 hl6))
def wpM_places (v1 : Int32) (v2 : Int32) (hi : HI) (hl : HL) (Φ : Int32 → HI → HL → Prop) : Prop :=
  wbM_places_0 v1 v2 hi hl Φ
def wbM_find_34 (k19 : (Int32 → Int32 → HI → HL → Prop)) : Nat → Int32 → Int32 → Int32 → Int32 → HI → HL → (Int32 → HI → HL → Prop) → Prop
  | 0, _, _, _, _, _, _, _ => False
  | n + 1, v1, v2, v3, v4, hi, hl, Φ =>
    (((1 : Int32) <<< (v3 &&& 31)) ≤ v4 →
      k19 v1 (v2 + Int32.ofInt (1)) hi hl) ∧
    (¬ (((1 : Int32) <<< (v3 &&& 31)) ≤ v4) →
      wpM_leads v4 v3 v2 hi hl (fun r1 hi2 hl3 =>
        (r1 = 0 →
          wbM_find_34 k19 n v1 v2 v3 (v4 + Int32.ofInt (1)) hi2 hl3 Φ) ∧
        (¬ (r1 = 0) →
          Φ v2 (u2 (u2 hi2 0 25 v2) 0 26 v4) hl3)))
def wbM_find_19 : Nat → Int32 → Int32 → HI → HL → (Int32 → HI → HL → Prop) → Prop
  | 0, _, _, _, _, _ => False
  | n + 1, v1, v2, hi, hl, Φ =>
    (v1 < v2 →
      Φ (-1 : Int32) hi hl) ∧
    (¬ (v1 < v2) →
      wpM_places v2 (0 : Int32) hi hl (fun r1 hi2 hl3 =>
        (∃ fu, wbM_find_34 (fun v1 v2 hi hl => wbM_find_19 n v1 v2 hi hl Φ) fu v1 v2 r1 (0 : Int32) hi2 hl3 Φ)))
def wbM_find_0 (v1 : Int32) (hi : HI) (hl : HL) (Φ : Int32 → HI → HL → Prop) : Prop :=
  wpM_in v1 (0 : Int32) (3 : Int32) hi hl (fun r1 hi2 hl3 =>
    (r1 = 0 →
      Φ (-2 : Int32) hi2 hl3) ∧
    (¬ (r1 = 0) →
      (∃ fu, wbM_find_19 fu v1 (0 : Int32) (u2 hi2 0 25 (-1 : Int32)) hl3 Φ)))
def wpM_find (v1 : Int32) (hi : HI) (hl : HL) (Φ : Int32 → HI → HL → Prop) : Prop :=
  wbM_find_0 v1 hi hl Φ
def wbM_shown_67 : Nat → Int32 → Int32 → Int32 → Int32 → HI → HL → (Int32 → HI → HL → Prop) → Prop
  | 0, _, _, _, _, _, _, _ => False
  | n + 1, v1, v3, v5, v6, hi, hl, Φ =>
    (v1 < v6 →
      vp_in v3 21 ∧
      Φ (hi 17 (v3.toNatClampNeg)) hi hl) ∧
    (¬ (v1 < v6) →
      wpM_advance hi hl (fun hi3 hl4 =>
        wpM_put (hi3 0 26) v5 hi3 hl4 (fun r5 hi6 hl7 =>
          wbM_shown_67 n v1 v3 r5 (v6 + Int32.ofInt (1)) hi6 hl7 Φ)))
def wbM_shown_0 (v1 : Int32) (v2 : Int32) (hi : HI) (hl : HL) (Φ : Int32 → HI → HL → Prop) : Prop :=
  wpM_lineOf v2 hi hl (fun r1 hi2 hl3 =>
    wpM_isNode r1 hi2 hl3 (fun r4 hi5 hl6 =>
      (r4 = 0 →
        Φ (-1 : Int32) hi5 hl6) ∧
      (¬ (r4 = 0) →
        wpM_in v1 (0 : Int32) (hi5 0 25) hi5 hl6 (fun r7 hi8 hl9 =>
          (r7 = 0 →
            Φ (-1 : Int32) hi8 hl9) ∧
          (¬ (r7 = 0) →
            wpM_places (hi8 0 25) (0 : Int32) hi8 hl9 (fun r10 hi11 hl12 =>
              wpM_start (hi11 0 26) r10 (0 : Int32) hi11 hl12 (fun r13 hi14 hl15 =>
                wpM_put (hi14 0 26) r13 hi14 hl15 (fun r16 hi17 hl18 =>
                  (∃ fu, wbM_shown_67 fu v1 r1 r16 (1 : Int32) hi17 hl18 Φ)))))))))
def wpM_shown (v1 : Int32) (v2 : Int32) (hi : HI) (hl : HL) (Φ : Int32 → HI → HL → Prop) : Prop :=
  wbM_shown_0 v1 v2 hi hl Φ
def wbM_prove_33 : Nat → Int32 → Int32 → Int32 → HI → HL → (Int32 → HI → HL → Prop) → Prop
  | 0, _, _, _, _, _, _ => False
  | n + 1, v1, v2, v3, hi, hl, Φ =>
    (((1 : Int32) <<< (v2 &&& 31)) ≤ v3 →
      Φ (1 : Int32) hi hl) ∧
    (¬ (((1 : Int32) <<< (v2 &&& 31)) ≤ v3) →
      wpM_isStretch v3 v2 v1 hi hl (fun r1 hi2 hl3 =>
        (r1 = 0 →
          wbM_prove_33 n v1 v2 (v3 + Int32.ofInt (1)) hi2 hl3 Φ) ∧
        (¬ (r1 = 0) →
          Φ (0 : Int32) hi2 hl3)))
def wbM_prove_0 (v1 : Int32) (hi : HI) (hl : HL) (Φ : Int32 → HI → HL → Prop) : Prop :=
  wpM_in v1 (0 : Int32) (2 : Int32) hi hl (fun r1 hi2 hl3 =>
    (r1 = 0 →
      Φ (-2 : Int32) hi2 hl3) ∧
    (¬ (r1 = 0) →
      wpM_find v1 hi2 hl3 (fun r4 hi5 hl6 =>
        (r4 < 0 →
          wpM_places (v1 + (1 : Int32)) (1 : Int32) hi5 hl6 (fun r7 hi8 hl9 =>
            (∃ fu, wbM_prove_33 fu v1 r7 (0 : Int32) hi8 hl9 Φ))) ∧
        (¬ (r4 < 0) →
          Φ (2 : Int32) hi5 hl6))))
def wpM_prove (v1 : Int32) (hi : HI) (hl : HL) (Φ : Int32 → HI → HL → Prop) : Prop :=
  wbM_prove_0 v1 hi hl Φ
