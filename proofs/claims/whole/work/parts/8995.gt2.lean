/-! gates: what they give, kind by kind and width by width (printed by wip/whole/pure/gates.py) -/
theorem jn_12_1_1_1 (hi : HI) (hl : HL) (Φ : HI → HL → Prop) (eW eb el eu ez : Int32) (h3 : hi 10 3 = 12) (h6 : hi 13 6 = 1) (h7 : hi 13 7 = 1) (h8 : hi 13 8 = 1) (z14 : ∀ j, 1 ≤ j → j < 6 → hl 14 j = 0) (z15 : ∀ j, 1 ≤ j → j < 6 → hl 15 j = 0) (z17 : ∀ j, j < 6 → hl 17 j = 0)
    (h : ∀ hl', (∀ c, (c < 14 ∨ 19 < c) → hl' c = hl c) → (∀ σ, σ < 64 → ∀ j, j < 1 → bt (hl' 17 j) σ = (opM 12 (nI 1) eW eb el eu (nI (lvb (fun j => bt (hl 14 j) σ) 1)) (nI (lvb (fun j => bt (hl 15 j) σ) 1)) ez).toNatClampNeg.testBit j) → Φ hi hl') : wpG_join hi hl Φ := by
  have hv : vp_in (12 : Int32) 31 := vp31 12 (by decide)
  have e : swC (12 : Int32).toNatClampNeg = 27 := by decide
  have e2 : swC 12 = 27 := by decide
  unfold wpG_join wbG_join_0
  rw [h3, e]
  simp (decide := true) only [false_implies, true_implies, and_true, true_and, not_true, not_false_eq_true, hv]
  unfold wpG_reckon wbG_reckon_0
  rw [e]
  simp (decide := true) only [false_implies, true_implies, and_true, true_and, not_true, not_false_eq_true, hv]
  unfold wpG_multiply wbG_multiply_0
  refine ⟨2, ?_⟩
  rw [wbG_multiply_2]
  refine br_f (by rw [h6]; decide) ⟨2, ?_⟩
  simp [wbG_multiply_15, wpG_carryOf, wbG_carryOf_0, h6, u2_ap, cpL_ap, va_cpy, vp_in]
  rw [wbG_multiply_2]
  refine br_t (by rw [h6]; decide) ?_
  refine h _ (fun c hc => ?_) (fun σ hσ j hj => ?_)
  · funext b
    simp only [u2_ap, cpL_ap]
    repeat rw [if_neg (by omega)]
  · have hc : j = 0 := by omega
    subst hc
    · simp (decide := true) only [opM, ↓reduceIte]
      simp [u2_ap, cpL_ap, va_cpy, bt_xor, bt_and, bt_or, bt_0, bt_m1 hσ, bt_cm hσ, lvb, z14 1 (by decide) (by decide), z14 2 (by decide) (by decide), z14 3 (by decide) (by decide), z14 4 (by decide) (by decide), z14 5 (by decide) (by decide), z15 1 (by decide) (by decide), z15 2 (by decide) (by decide), z15 3 (by decide) (by decide), z15 4 (by decide) (by decide), z15 5 (by decide) (by decide), z17 0 (by decide), z17 1 (by decide), z17 2 (by decide), z17 3 (by decide), z17 4 (by decide), z17 5 (by decide)]
      generalize bt (hl 14 0) σ = a0
      generalize bt (hl 15 0) σ = b0
      revert a0 b0
      decide +kernel
theorem jn_12_2_2_2 (hi : HI) (hl : HL) (Φ : HI → HL → Prop) (eW eb el eu ez : Int32) (h3 : hi 10 3 = 12) (h6 : hi 13 6 = 2) (h7 : hi 13 7 = 2) (h8 : hi 13 8 = 2) (z14 : ∀ j, 2 ≤ j → j < 6 → hl 14 j = 0) (z15 : ∀ j, 2 ≤ j → j < 6 → hl 15 j = 0) (z17 : ∀ j, j < 6 → hl 17 j = 0)
    (h : ∀ hl', (∀ c, (c < 14 ∨ 19 < c) → hl' c = hl c) → (∀ σ, σ < 64 → ∀ j, j < 2 → bt (hl' 17 j) σ = (opM 12 (nI 2) eW eb el eu (nI (lvb (fun j => bt (hl 14 j) σ) 2)) (nI (lvb (fun j => bt (hl 15 j) σ) 2)) ez).toNatClampNeg.testBit j) → Φ hi hl') : wpG_join hi hl Φ := by
  have hv : vp_in (12 : Int32) 31 := vp31 12 (by decide)
  have e : swC (12 : Int32).toNatClampNeg = 27 := by decide
  have e2 : swC 12 = 27 := by decide
  unfold wpG_join wbG_join_0
  rw [h3, e]
  simp (decide := true) only [false_implies, true_implies, and_true, true_and, not_true, not_false_eq_true, hv]
  unfold wpG_reckon wbG_reckon_0
  rw [e]
  simp (decide := true) only [false_implies, true_implies, and_true, true_and, not_true, not_false_eq_true, hv]
  unfold wpG_multiply wbG_multiply_0
  refine ⟨3, ?_⟩
  rw [wbG_multiply_2]
  refine br_f (by rw [h6]; decide) ⟨3, ?_⟩
  simp [wbG_multiply_15, wpG_carryOf, wbG_carryOf_0, h6, u2_ap, cpL_ap, va_cpy, vp_in]
  rw [wbG_multiply_2]
  refine br_f (by rw [h6]; decide) ⟨3, ?_⟩
  simp [wbG_multiply_15, wpG_carryOf, wbG_carryOf_0, h6, u2_ap, cpL_ap, va_cpy, vp_in]
  rw [wbG_multiply_2]
  refine br_t (by rw [h6]; decide) ?_
  refine h _ (fun c hc => ?_) (fun σ hσ j hj => ?_)
  · funext b
    simp only [u2_ap, cpL_ap]
    repeat rw [if_neg (by omega)]
  · have hc : j = 0 ∨ j = 1 := by omega
    rcases hc with rfl | rfl
    · simp (decide := true) only [opM, ↓reduceIte]
      simp [u2_ap, cpL_ap, va_cpy, bt_xor, bt_and, bt_or, bt_0, bt_m1 hσ, bt_cm hσ, lvb, z14 2 (by decide) (by decide), z14 3 (by decide) (by decide), z14 4 (by decide) (by decide), z14 5 (by decide) (by decide), z15 2 (by decide) (by decide), z15 3 (by decide) (by decide), z15 4 (by decide) (by decide), z15 5 (by decide) (by decide), z17 0 (by decide), z17 1 (by decide), z17 2 (by decide), z17 3 (by decide), z17 4 (by decide), z17 5 (by decide)]
      generalize bt (hl 14 0) σ = a0
      generalize bt (hl 14 1) σ = a1
      generalize bt (hl 15 0) σ = b0
      generalize bt (hl 15 1) σ = b1
      revert a0 a1 b0 b1
      decide +kernel
    · simp (decide := true) only [opM, ↓reduceIte]
      simp [u2_ap, cpL_ap, va_cpy, bt_xor, bt_and, bt_or, bt_0, bt_m1 hσ, bt_cm hσ, lvb, z14 2 (by decide) (by decide), z14 3 (by decide) (by decide), z14 4 (by decide) (by decide), z14 5 (by decide) (by decide), z15 2 (by decide) (by decide), z15 3 (by decide) (by decide), z15 4 (by decide) (by decide), z15 5 (by decide) (by decide), z17 0 (by decide), z17 1 (by decide), z17 2 (by decide), z17 3 (by decide), z17 4 (by decide), z17 5 (by decide)]
      generalize bt (hl 14 0) σ = a0
      generalize bt (hl 14 1) σ = a1
      generalize bt (hl 15 0) σ = b0
      generalize bt (hl 15 1) σ = b1
      revert a0 a1 b0 b1
      decide +kernel
theorem jn_12_3_3_3 (hi : HI) (hl : HL) (Φ : HI → HL → Prop) (eW eb el eu ez : Int32) (h3 : hi 10 3 = 12) (h6 : hi 13 6 = 3) (h7 : hi 13 7 = 3) (h8 : hi 13 8 = 3) (z14 : ∀ j, 3 ≤ j → j < 6 → hl 14 j = 0) (z15 : ∀ j, 3 ≤ j → j < 6 → hl 15 j = 0) (z17 : ∀ j, j < 6 → hl 17 j = 0)
    (h : ∀ hl', (∀ c, (c < 14 ∨ 19 < c) → hl' c = hl c) → (∀ σ, σ < 64 → ∀ j, j < 3 → bt (hl' 17 j) σ = (opM 12 (nI 3) eW eb el eu (nI (lvb (fun j => bt (hl 14 j) σ) 3)) (nI (lvb (fun j => bt (hl 15 j) σ) 3)) ez).toNatClampNeg.testBit j) → Φ hi hl') : wpG_join hi hl Φ := by
  have hv : vp_in (12 : Int32) 31 := vp31 12 (by decide)
  have e : swC (12 : Int32).toNatClampNeg = 27 := by decide
  have e2 : swC 12 = 27 := by decide
  unfold wpG_join wbG_join_0
  rw [h3, e]
  simp (decide := true) only [false_implies, true_implies, and_true, true_and, not_true, not_false_eq_true, hv]
  unfold wpG_reckon wbG_reckon_0
  rw [e]
  simp (decide := true) only [false_implies, true_implies, and_true, true_and, not_true, not_false_eq_true, hv]
  unfold wpG_multiply wbG_multiply_0
  refine ⟨4, ?_⟩
  rw [wbG_multiply_2]
  refine br_f (by rw [h6]; decide) ⟨4, ?_⟩
  simp [wbG_multiply_15, wpG_carryOf, wbG_carryOf_0, h6, u2_ap, cpL_ap, va_cpy, vp_in]
  rw [wbG_multiply_2]
  refine br_f (by rw [h6]; decide) ⟨4, ?_⟩
  simp [wbG_multiply_15, wpG_carryOf, wbG_carryOf_0, h6, u2_ap, cpL_ap, va_cpy, vp_in]
  rw [wbG_multiply_2]
  refine br_f (by rw [h6]; decide) ⟨4, ?_⟩
  simp [wbG_multiply_15, wpG_carryOf, wbG_carryOf_0, h6, u2_ap, cpL_ap, va_cpy, vp_in]
  rw [wbG_multiply_2]
  refine br_t (by rw [h6]; decide) ?_
  refine h _ (fun c hc => ?_) (fun σ hσ j hj => ?_)
  · funext b
    simp only [u2_ap, cpL_ap]
    repeat rw [if_neg (by omega)]
  · have hc : j = 0 ∨ j = 1 ∨ j = 2 := by omega
    rcases hc with rfl | rfl | rfl
    · simp (decide := true) only [opM, ↓reduceIte]
      simp [u2_ap, cpL_ap, va_cpy, bt_xor, bt_and, bt_or, bt_0, bt_m1 hσ, bt_cm hσ, lvb, z14 3 (by decide) (by decide), z14 4 (by decide) (by decide), z14 5 (by decide) (by decide), z15 3 (by decide) (by decide), z15 4 (by decide) (by decide), z15 5 (by decide) (by decide), z17 0 (by decide), z17 1 (by decide), z17 2 (by decide), z17 3 (by decide), z17 4 (by decide), z17 5 (by decide)]
      generalize bt (hl 14 0) σ = a0
      generalize bt (hl 14 1) σ = a1
      generalize bt (hl 14 2) σ = a2
      generalize bt (hl 15 0) σ = b0
      generalize bt (hl 15 1) σ = b1
      generalize bt (hl 15 2) σ = b2
      revert a0 a1 a2 b0 b1 b2
      decide +kernel
    · simp (decide := true) only [opM, ↓reduceIte]
      simp [u2_ap, cpL_ap, va_cpy, bt_xor, bt_and, bt_or, bt_0, bt_m1 hσ, bt_cm hσ, lvb, z14 3 (by decide) (by decide), z14 4 (by decide) (by decide), z14 5 (by decide) (by decide), z15 3 (by decide) (by decide), z15 4 (by decide) (by decide), z15 5 (by decide) (by decide), z17 0 (by decide), z17 1 (by decide), z17 2 (by decide), z17 3 (by decide), z17 4 (by decide), z17 5 (by decide)]
      generalize bt (hl 14 0) σ = a0
      generalize bt (hl 14 1) σ = a1
      generalize bt (hl 14 2) σ = a2
      generalize bt (hl 15 0) σ = b0
      generalize bt (hl 15 1) σ = b1
      generalize bt (hl 15 2) σ = b2
      revert a0 a1 a2 b0 b1 b2
      decide +kernel
    · simp (decide := true) only [opM, ↓reduceIte]
      simp [u2_ap, cpL_ap, va_cpy, bt_xor, bt_and, bt_or, bt_0, bt_m1 hσ, bt_cm hσ, lvb, z14 3 (by decide) (by decide), z14 4 (by decide) (by decide), z14 5 (by decide) (by decide), z15 3 (by decide) (by decide), z15 4 (by decide) (by decide), z15 5 (by decide) (by decide), z17 0 (by decide), z17 1 (by decide), z17 2 (by decide), z17 3 (by decide), z17 4 (by decide), z17 5 (by decide)]
      generalize bt (hl 14 0) σ = a0
      generalize bt (hl 14 1) σ = a1
      generalize bt (hl 14 2) σ = a2
      generalize bt (hl 15 0) σ = b0
      generalize bt (hl 15 1) σ = b1
      generalize bt (hl 15 2) σ = b2
      revert a0 a1 a2 b0 b1 b2
      decide +kernel
theorem jn_6_1_1_0 (hi : HI) (hl : HL) (Φ : HI → HL → Prop) (ew eW eb el eu ey ez : Int32) (h3 : hi 10 3 = 6) (h6 : hi 13 6 = 1) (h7 : hi 13 7 = 1) (h8 : hi 13 8 = 0) (z14 : ∀ j, 1 ≤ j → j < 6 → hl 14 j = 0) (z15 : ∀ j, 0 ≤ j → j < 6 → hl 15 j = 0) (z17 : ∀ j, j < 6 → hl 17 j = 0)
    (h : ∀ hl', (∀ c, (c < 14 ∨ 19 < c) → hl' c = hl c) → (∀ σ, σ < 64 → ∀ j, j < 1 → bt (hl' 17 j) σ = (opM 6 ew eW eb el eu (nI (lvb (fun j => bt (hl 14 j) σ) 1)) ey ez).toNatClampNeg.testBit j) → Φ hi hl') : wpG_join hi hl Φ := by
  have hv : vp_in (6 : Int32) 31 := vp31 6 (by decide)
  have e : swC (6 : Int32).toNatClampNeg = 15 := by decide
  have e2 : swC 6 = 15 := by decide
  unfold wpG_join wbG_join_0
  rw [h3, e]
  simp (decide := true) only [false_implies, true_implies, and_true, true_and, not_true, not_false_eq_true, hv]
  unfold wpG_compare wbG_compare_0
  rw [e]
  simp (decide := true) only [false_implies, true_implies, and_true, true_and, not_true, not_false_eq_true, hv]
  unfold wpG_equal wbG_equal_0
  refine ⟨2, ?_⟩
  simp [wbG_equal_6, h6, h7, h8, u2_ap, vp_in]
  refine h _ (fun c hc => ?_) (fun σ hσ j hj => ?_)
  · funext b
    simp only [u2_ap, cpL_ap]
    repeat rw [if_neg (by omega)]
  · have hc : j = 0 := by omega
    subst hc
    · simp (decide := true) only [opM, ↓reduceIte]
      simp [u2_ap, cpL_ap, va_cpy, bt_xor, bt_and, bt_or, bt_0, bt_m1 hσ, bt_cm hσ, lvb, z14 1 (by decide) (by decide), z14 2 (by decide) (by decide), z14 3 (by decide) (by decide), z14 4 (by decide) (by decide), z14 5 (by decide) (by decide), z15 0 (by decide) (by decide), z15 1 (by decide) (by decide), z15 2 (by decide) (by decide), z15 3 (by decide) (by decide), z15 4 (by decide) (by decide), z15 5 (by decide) (by decide), z17 0 (by decide), z17 1 (by decide), z17 2 (by decide), z17 3 (by decide), z17 4 (by decide), z17 5 (by decide)]
      generalize bt (hl 14 0) σ = a0
      revert a0
      decide +kernel
theorem jn_18_1_1_1 (hi : HI) (hl : HL) (Φ : HI → HL → Prop) (ew eW eb el eu ez : Int32) (h3 : hi 10 3 = 18) (h6 : hi 13 6 = 1) (h7 : hi 13 7 = 1) (h8 : hi 13 8 = 1) (z14 : ∀ j, 1 ≤ j → j < 6 → hl 14 j = 0) (z15 : ∀ j, 1 ≤ j → j < 6 → hl 15 j = 0) (z17 : ∀ j, j < 6 → hl 17 j = 0)
    (h : ∀ hl', (∀ c, (c < 14 ∨ 19 < c) → hl' c = hl c) → (∀ σ, σ < 64 → ∀ j, j < 1 → bt (hl' 17 j) σ = (opM 18 ew eW eb el eu (nI (lvb (fun j => bt (hl 14 j) σ) 1)) (nI (lvb (fun j => bt (hl 15 j) σ) 1)) ez).toNatClampNeg.testBit j) → Φ hi hl') : wpG_join hi hl Φ := by
  have hv : vp_in (18 : Int32) 31 := vp31 18 (by decide)
  have e : swC (18 : Int32).toNatClampNeg = 17 := by decide
  have e2 : swC 18 = 17 := by decide
  unfold wpG_join wbG_join_0
  rw [h3, e]
  simp (decide := true) only [false_implies, true_implies, and_true, true_and, not_true, not_false_eq_true, hv]
  unfold wpG_compare wbG_compare_0
  rw [e]
  simp (decide := true) only [false_implies, true_implies, and_true, true_and, not_true, not_false_eq_true, hv]
  unfold wpG_below wbG_below_0
  refine ⟨2, ?_⟩
  simp [wbG_below_4, wpG_choose, wbG_choose_0, h6, h7, h8, u2_ap, vp_in]
  refine h _ (fun c hc => ?_) (fun σ hσ j hj => ?_)
  · funext b
    simp only [u2_ap, cpL_ap]
    repeat rw [if_neg (by omega)]
  · have hc : j = 0 := by omega
    subst hc
    · simp (decide := true) only [opM, ↓reduceIte]
      simp [u2_ap, cpL_ap, va_cpy, bt_xor, bt_and, bt_or, bt_0, bt_m1 hσ, bt_cm hσ, lvb, z14 1 (by decide) (by decide), z14 2 (by decide) (by decide), z14 3 (by decide) (by decide), z14 4 (by decide) (by decide), z14 5 (by decide) (by decide), z15 1 (by decide) (by decide), z15 2 (by decide) (by decide), z15 3 (by decide) (by decide), z15 4 (by decide) (by decide), z15 5 (by decide) (by decide), z17 0 (by decide), z17 1 (by decide), z17 2 (by decide), z17 3 (by decide), z17 4 (by decide), z17 5 (by decide)]
      generalize bt (hl 14 0) σ = a0
      generalize bt (hl 15 0) σ = b0
      revert a0 b0
      decide +kernel
theorem jn_19_1_1_1 (hi : HI) (hl : HL) (Φ : HI → HL → Prop) (ew eb el eu ez : Int32) (h3 : hi 10 3 = 19) (h6 : hi 13 6 = 1) (h7 : hi 13 7 = 1) (h8 : hi 13 8 = 1) (z14 : ∀ j, 1 ≤ j → j < 6 → hl 14 j = 0) (z15 : ∀ j, 1 ≤ j → j < 6 → hl 15 j = 0) (z17 : ∀ j, j < 6 → hl 17 j = 0)
    (h : ∀ hl', (∀ c, (c < 14 ∨ 19 < c) → hl' c = hl c) → (∀ σ, σ < 64 → ∀ j, j < 1 → bt (hl' 17 j) σ = (opM 19 ew (nI 1) eb el eu (nI (lvb (fun j => bt (hl 14 j) σ) 1)) (nI (lvb (fun j => bt (hl 15 j) σ) 1)) ez).toNatClampNeg.testBit j) → Φ hi hl') : wpG_join hi hl Φ := by
  have hv : vp_in (19 : Int32) 31 := vp31 19 (by decide)
  have e : swC (19 : Int32).toNatClampNeg = 18 := by decide
  have e2 : swC 19 = 18 := by decide
  unfold wpG_join wbG_join_0
  rw [h3, e]
  simp (decide := true) only [false_implies, true_implies, and_true, true_and, not_true, not_false_eq_true, hv]
  unfold wpG_compare wbG_compare_0
  rw [e]
  simp (decide := true) only [false_implies, true_implies, and_true, true_and, not_true, not_false_eq_true, hv]
  unfold wpG_swapHighest wbG_swapHighest_0
  rw [h7]
  refine br_f (by decide) ?_
  unfold wpG_below wbG_below_0
  refine ⟨by simp [vp_in], by simp [vp_in], by simp [vp_in], by simp [vp_in], ⟨2, ?_⟩⟩
  simp [wbG_below_4, wpG_choose, wbG_choose_0, h6, h7, h8, u2_ap, vp_in]
  refine h _ (fun c hc => ?_) (fun σ hσ j hj => ?_)
  · funext b
    simp only [u2_ap, cpL_ap]
    repeat rw [if_neg (by omega)]
  · have hc : j = 0 := by omega
    subst hc
    · simp (decide := true) only [opM, ↓reduceIte]
      simp [u2_ap, cpL_ap, va_cpy, bt_xor, bt_and, bt_or, bt_0, bt_m1 hσ, bt_cm hσ, lvb, z14 1 (by decide) (by decide), z14 2 (by decide) (by decide), z14 3 (by decide) (by decide), z14 4 (by decide) (by decide), z14 5 (by decide) (by decide), z15 1 (by decide) (by decide), z15 2 (by decide) (by decide), z15 3 (by decide) (by decide), z15 4 (by decide) (by decide), z15 5 (by decide) (by decide), z17 0 (by decide), z17 1 (by decide), z17 2 (by decide), z17 3 (by decide), z17 4 (by decide), z17 5 (by decide)]
      generalize bt (hl 14 0) σ = a0
      generalize bt (hl 15 0) σ = b0
      revert a0 b0
      decide +kernel
theorem jn_6_1_2_0 (hi : HI) (hl : HL) (Φ : HI → HL → Prop) (ew eW eb el eu ey ez : Int32) (h3 : hi 10 3 = 6) (h6 : hi 13 6 = 1) (h7 : hi 13 7 = 2) (h8 : hi 13 8 = 0) (z14 : ∀ j, 2 ≤ j → j < 6 → hl 14 j = 0) (z15 : ∀ j, 0 ≤ j → j < 6 → hl 15 j = 0) (z17 : ∀ j, j < 6 → hl 17 j = 0)
    (h : ∀ hl', (∀ c, (c < 14 ∨ 19 < c) → hl' c = hl c) → (∀ σ, σ < 64 → ∀ j, j < 1 → bt (hl' 17 j) σ = (opM 6 ew eW eb el eu (nI (lvb (fun j => bt (hl 14 j) σ) 2)) ey ez).toNatClampNeg.testBit j) → Φ hi hl') : wpG_join hi hl Φ := by
  have hv : vp_in (6 : Int32) 31 := vp31 6 (by decide)
  have e : swC (6 : Int32).toNatClampNeg = 15 := by decide
  have e2 : swC 6 = 15 := by decide
  unfold wpG_join wbG_join_0
  rw [h3, e]
  simp (decide := true) only [false_implies, true_implies, and_true, true_and, not_true, not_false_eq_true, hv]
  unfold wpG_compare wbG_compare_0
  rw [e]
  simp (decide := true) only [false_implies, true_implies, and_true, true_and, not_true, not_false_eq_true, hv]
  unfold wpG_equal wbG_equal_0
  refine ⟨3, ?_⟩
  simp [wbG_equal_6, h6, h7, h8, u2_ap, vp_in]
  refine h _ (fun c hc => ?_) (fun σ hσ j hj => ?_)
  · funext b
    simp only [u2_ap, cpL_ap]
    repeat rw [if_neg (by omega)]
  · have hc : j = 0 := by omega
    subst hc
    · simp (decide := true) only [opM, ↓reduceIte]
      simp [u2_ap, cpL_ap, va_cpy, bt_xor, bt_and, bt_or, bt_0, bt_m1 hσ, bt_cm hσ, lvb, z14 2 (by decide) (by decide), z14 3 (by decide) (by decide), z14 4 (by decide) (by decide), z14 5 (by decide) (by decide), z15 0 (by decide) (by decide), z15 1 (by decide) (by decide), z15 2 (by decide) (by decide), z15 3 (by decide) (by decide), z15 4 (by decide) (by decide), z15 5 (by decide) (by decide), z17 0 (by decide), z17 1 (by decide), z17 2 (by decide), z17 3 (by decide), z17 4 (by decide), z17 5 (by decide)]
      generalize bt (hl 14 0) σ = a0
      generalize bt (hl 14 1) σ = a1
      revert a0 a1
      decide +kernel
theorem jn_18_1_2_2 (hi : HI) (hl : HL) (Φ : HI → HL → Prop) (ew eW eb el eu ez : Int32) (h3 : hi 10 3 = 18) (h6 : hi 13 6 = 1) (h7 : hi 13 7 = 2) (h8 : hi 13 8 = 2) (z14 : ∀ j, 2 ≤ j → j < 6 → hl 14 j = 0) (z15 : ∀ j, 2 ≤ j → j < 6 → hl 15 j = 0) (z17 : ∀ j, j < 6 → hl 17 j = 0)
    (h : ∀ hl', (∀ c, (c < 14 ∨ 19 < c) → hl' c = hl c) → (∀ σ, σ < 64 → ∀ j, j < 1 → bt (hl' 17 j) σ = (opM 18 ew eW eb el eu (nI (lvb (fun j => bt (hl 14 j) σ) 2)) (nI (lvb (fun j => bt (hl 15 j) σ) 2)) ez).toNatClampNeg.testBit j) → Φ hi hl') : wpG_join hi hl Φ := by
  have hv : vp_in (18 : Int32) 31 := vp31 18 (by decide)
  have e : swC (18 : Int32).toNatClampNeg = 17 := by decide
  have e2 : swC 18 = 17 := by decide
  unfold wpG_join wbG_join_0
  rw [h3, e]
  simp (decide := true) only [false_implies, true_implies, and_true, true_and, not_true, not_false_eq_true, hv]
  unfold wpG_compare wbG_compare_0
  rw [e]
  simp (decide := true) only [false_implies, true_implies, and_true, true_and, not_true, not_false_eq_true, hv]
  unfold wpG_below wbG_below_0
  refine ⟨3, ?_⟩
  simp [wbG_below_4, wpG_choose, wbG_choose_0, h6, h7, h8, u2_ap, vp_in]
  refine h _ (fun c hc => ?_) (fun σ hσ j hj => ?_)
  · funext b
    simp only [u2_ap, cpL_ap]
    repeat rw [if_neg (by omega)]
  · have hc : j = 0 := by omega
    subst hc
    · simp (decide := true) only [opM, ↓reduceIte]
      simp [u2_ap, cpL_ap, va_cpy, bt_xor, bt_and, bt_or, bt_0, bt_m1 hσ, bt_cm hσ, lvb, z14 2 (by decide) (by decide), z14 3 (by decide) (by decide), z14 4 (by decide) (by decide), z14 5 (by decide) (by decide), z15 2 (by decide) (by decide), z15 3 (by decide) (by decide), z15 4 (by decide) (by decide), z15 5 (by decide) (by decide), z17 0 (by decide), z17 1 (by decide), z17 2 (by decide), z17 3 (by decide), z17 4 (by decide), z17 5 (by decide)]
      generalize bt (hl 14 0) σ = a0
      generalize bt (hl 14 1) σ = a1
      generalize bt (hl 15 0) σ = b0
      generalize bt (hl 15 1) σ = b1
      revert a0 a1 b0 b1
      decide +kernel
theorem jn_19_1_2_2 (hi : HI) (hl : HL) (Φ : HI → HL → Prop) (ew eb el eu ez : Int32) (h3 : hi 10 3 = 19) (h6 : hi 13 6 = 1) (h7 : hi 13 7 = 2) (h8 : hi 13 8 = 2) (z14 : ∀ j, 2 ≤ j → j < 6 → hl 14 j = 0) (z15 : ∀ j, 2 ≤ j → j < 6 → hl 15 j = 0) (z17 : ∀ j, j < 6 → hl 17 j = 0)
    (h : ∀ hl', (∀ c, (c < 14 ∨ 19 < c) → hl' c = hl c) → (∀ σ, σ < 64 → ∀ j, j < 1 → bt (hl' 17 j) σ = (opM 19 ew (nI 2) eb el eu (nI (lvb (fun j => bt (hl 14 j) σ) 2)) (nI (lvb (fun j => bt (hl 15 j) σ) 2)) ez).toNatClampNeg.testBit j) → Φ hi hl') : wpG_join hi hl Φ := by
  have hv : vp_in (19 : Int32) 31 := vp31 19 (by decide)
  have e : swC (19 : Int32).toNatClampNeg = 18 := by decide
  have e2 : swC 19 = 18 := by decide
  unfold wpG_join wbG_join_0
  rw [h3, e]
  simp (decide := true) only [false_implies, true_implies, and_true, true_and, not_true, not_false_eq_true, hv]
  unfold wpG_compare wbG_compare_0
  rw [e]
  simp (decide := true) only [false_implies, true_implies, and_true, true_and, not_true, not_false_eq_true, hv]
  unfold wpG_swapHighest wbG_swapHighest_0
  rw [h7]
  refine br_f (by decide) ?_
  unfold wpG_below wbG_below_0
  refine ⟨by simp [vp_in], by simp [vp_in], by simp [vp_in], by simp [vp_in], ⟨3, ?_⟩⟩
  simp [wbG_below_4, wpG_choose, wbG_choose_0, h6, h7, h8, u2_ap, vp_in]
  refine h _ (fun c hc => ?_) (fun σ hσ j hj => ?_)
  · funext b
    simp only [u2_ap, cpL_ap]
    repeat rw [if_neg (by omega)]
  · have hc : j = 0 := by omega
    subst hc
    · simp (decide := true) only [opM, ↓reduceIte]
      simp [u2_ap, cpL_ap, va_cpy, bt_xor, bt_and, bt_or, bt_0, bt_m1 hσ, bt_cm hσ, lvb, z14 2 (by decide) (by decide), z14 3 (by decide) (by decide), z14 4 (by decide) (by decide), z14 5 (by decide) (by decide), z15 2 (by decide) (by decide), z15 3 (by decide) (by decide), z15 4 (by decide) (by decide), z15 5 (by decide) (by decide), z17 0 (by decide), z17 1 (by decide), z17 2 (by decide), z17 3 (by decide), z17 4 (by decide), z17 5 (by decide)]
      generalize bt (hl 14 0) σ = a0
      generalize bt (hl 14 1) σ = a1
      generalize bt (hl 15 0) σ = b0
      generalize bt (hl 15 1) σ = b1
      revert a0 a1 b0 b1
      decide +kernel
theorem jn_6_1_3_0 (hi : HI) (hl : HL) (Φ : HI → HL → Prop) (ew eW eb el eu ey ez : Int32) (h3 : hi 10 3 = 6) (h6 : hi 13 6 = 1) (h7 : hi 13 7 = 3) (h8 : hi 13 8 = 0) (z14 : ∀ j, 3 ≤ j → j < 6 → hl 14 j = 0) (z15 : ∀ j, 0 ≤ j → j < 6 → hl 15 j = 0) (z17 : ∀ j, j < 6 → hl 17 j = 0)
    (h : ∀ hl', (∀ c, (c < 14 ∨ 19 < c) → hl' c = hl c) → (∀ σ, σ < 64 → ∀ j, j < 1 → bt (hl' 17 j) σ = (opM 6 ew eW eb el eu (nI (lvb (fun j => bt (hl 14 j) σ) 3)) ey ez).toNatClampNeg.testBit j) → Φ hi hl') : wpG_join hi hl Φ := by
  have hv : vp_in (6 : Int32) 31 := vp31 6 (by decide)
  have e : swC (6 : Int32).toNatClampNeg = 15 := by decide
  have e2 : swC 6 = 15 := by decide
  unfold wpG_join wbG_join_0
  rw [h3, e]
  simp (decide := true) only [false_implies, true_implies, and_true, true_and, not_true, not_false_eq_true, hv]
  unfold wpG_compare wbG_compare_0
  rw [e]
  simp (decide := true) only [false_implies, true_implies, and_true, true_and, not_true, not_false_eq_true, hv]
  unfold wpG_equal wbG_equal_0
  refine ⟨4, ?_⟩
  simp [wbG_equal_6, h6, h7, h8, u2_ap, vp_in]
  refine h _ (fun c hc => ?_) (fun σ hσ j hj => ?_)
  · funext b
    simp only [u2_ap, cpL_ap]
    repeat rw [if_neg (by omega)]
  · have hc : j = 0 := by omega
    subst hc
    · simp (decide := true) only [opM, ↓reduceIte]
      simp [u2_ap, cpL_ap, va_cpy, bt_xor, bt_and, bt_or, bt_0, bt_m1 hσ, bt_cm hσ, lvb, z14 3 (by decide) (by decide), z14 4 (by decide) (by decide), z14 5 (by decide) (by decide), z15 0 (by decide) (by decide), z15 1 (by decide) (by decide), z15 2 (by decide) (by decide), z15 3 (by decide) (by decide), z15 4 (by decide) (by decide), z15 5 (by decide) (by decide), z17 0 (by decide), z17 1 (by decide), z17 2 (by decide), z17 3 (by decide), z17 4 (by decide), z17 5 (by decide)]
      generalize bt (hl 14 0) σ = a0
      generalize bt (hl 14 1) σ = a1
      generalize bt (hl 14 2) σ = a2
      revert a0 a1 a2
      decide +kernel
theorem jn_18_1_3_3 (hi : HI) (hl : HL) (Φ : HI → HL → Prop) (ew eW eb el eu ez : Int32) (h3 : hi 10 3 = 18) (h6 : hi 13 6 = 1) (h7 : hi 13 7 = 3) (h8 : hi 13 8 = 3) (z14 : ∀ j, 3 ≤ j → j < 6 → hl 14 j = 0) (z15 : ∀ j, 3 ≤ j → j < 6 → hl 15 j = 0) (z17 : ∀ j, j < 6 → hl 17 j = 0)
    (h : ∀ hl', (∀ c, (c < 14 ∨ 19 < c) → hl' c = hl c) → (∀ σ, σ < 64 → ∀ j, j < 1 → bt (hl' 17 j) σ = (opM 18 ew eW eb el eu (nI (lvb (fun j => bt (hl 14 j) σ) 3)) (nI (lvb (fun j => bt (hl 15 j) σ) 3)) ez).toNatClampNeg.testBit j) → Φ hi hl') : wpG_join hi hl Φ := by
  have hv : vp_in (18 : Int32) 31 := vp31 18 (by decide)
  have e : swC (18 : Int32).toNatClampNeg = 17 := by decide
  have e2 : swC 18 = 17 := by decide
  unfold wpG_join wbG_join_0
  rw [h3, e]
  simp (decide := true) only [false_implies, true_implies, and_true, true_and, not_true, not_false_eq_true, hv]
  unfold wpG_compare wbG_compare_0
  rw [e]
  simp (decide := true) only [false_implies, true_implies, and_true, true_and, not_true, not_false_eq_true, hv]
  unfold wpG_below wbG_below_0
  refine ⟨4, ?_⟩
  simp [wbG_below_4, wpG_choose, wbG_choose_0, h6, h7, h8, u2_ap, vp_in]
  refine h _ (fun c hc => ?_) (fun σ hσ j hj => ?_)
  · funext b
    simp only [u2_ap, cpL_ap]
    repeat rw [if_neg (by omega)]
  · have hc : j = 0 := by omega
    subst hc
    · simp (decide := true) only [opM, ↓reduceIte]
      simp [u2_ap, cpL_ap, va_cpy, bt_xor, bt_and, bt_or, bt_0, bt_m1 hσ, bt_cm hσ, lvb, z14 3 (by decide) (by decide), z14 4 (by decide) (by decide), z14 5 (by decide) (by decide), z15 3 (by decide) (by decide), z15 4 (by decide) (by decide), z15 5 (by decide) (by decide), z17 0 (by decide), z17 1 (by decide), z17 2 (by decide), z17 3 (by decide), z17 4 (by decide), z17 5 (by decide)]
      generalize bt (hl 14 0) σ = a0
      generalize bt (hl 14 1) σ = a1
      generalize bt (hl 14 2) σ = a2
      generalize bt (hl 15 0) σ = b0
      generalize bt (hl 15 1) σ = b1
      generalize bt (hl 15 2) σ = b2
      revert a0 a1 a2 b0 b1 b2
      decide +kernel
theorem jn_19_1_3_3 (hi : HI) (hl : HL) (Φ : HI → HL → Prop) (ew eb el eu ez : Int32) (h3 : hi 10 3 = 19) (h6 : hi 13 6 = 1) (h7 : hi 13 7 = 3) (h8 : hi 13 8 = 3) (z14 : ∀ j, 3 ≤ j → j < 6 → hl 14 j = 0) (z15 : ∀ j, 3 ≤ j → j < 6 → hl 15 j = 0) (z17 : ∀ j, j < 6 → hl 17 j = 0)
    (h : ∀ hl', (∀ c, (c < 14 ∨ 19 < c) → hl' c = hl c) → (∀ σ, σ < 64 → ∀ j, j < 1 → bt (hl' 17 j) σ = (opM 19 ew (nI 3) eb el eu (nI (lvb (fun j => bt (hl 14 j) σ) 3)) (nI (lvb (fun j => bt (hl 15 j) σ) 3)) ez).toNatClampNeg.testBit j) → Φ hi hl') : wpG_join hi hl Φ := by
  have hv : vp_in (19 : Int32) 31 := vp31 19 (by decide)
  have e : swC (19 : Int32).toNatClampNeg = 18 := by decide
  have e2 : swC 19 = 18 := by decide
  unfold wpG_join wbG_join_0
  rw [h3, e]
  simp (decide := true) only [false_implies, true_implies, and_true, true_and, not_true, not_false_eq_true, hv]
  unfold wpG_compare wbG_compare_0
  rw [e]
  simp (decide := true) only [false_implies, true_implies, and_true, true_and, not_true, not_false_eq_true, hv]
  unfold wpG_swapHighest wbG_swapHighest_0
  rw [h7]
  refine br_f (by decide) ?_
  unfold wpG_below wbG_below_0
  refine ⟨by simp [vp_in], by simp [vp_in], by simp [vp_in], by simp [vp_in], ⟨4, ?_⟩⟩
  simp [wbG_below_4, wpG_choose, wbG_choose_0, h6, h7, h8, u2_ap, vp_in]
  refine h _ (fun c hc => ?_) (fun σ hσ j hj => ?_)
  · funext b
    simp only [u2_ap, cpL_ap]
    repeat rw [if_neg (by omega)]
  · have hc : j = 0 := by omega
    subst hc
    · simp (decide := true) only [opM, ↓reduceIte]
      simp [u2_ap, cpL_ap, va_cpy, bt_xor, bt_and, bt_or, bt_0, bt_m1 hσ, bt_cm hσ, lvb, z14 3 (by decide) (by decide), z14 4 (by decide) (by decide), z14 5 (by decide) (by decide), z15 3 (by decide) (by decide), z15 4 (by decide) (by decide), z15 5 (by decide) (by decide), z17 0 (by decide), z17 1 (by decide), z17 2 (by decide), z17 3 (by decide), z17 4 (by decide), z17 5 (by decide)]
      generalize bt (hl 14 0) σ = a0
      generalize bt (hl 14 1) σ = a1
      generalize bt (hl 14 2) σ = a2
      generalize bt (hl 15 0) σ = b0
      generalize bt (hl 15 1) σ = b1
      generalize bt (hl 15 2) σ = b2
      revert a0 a1 a2 b0 b1 b2
      decide +kernel
theorem jn_17_1_1_1 (hi : HI) (hl : HL) (Φ : HI → HL → Prop) (ew eW eb el eu ez : Int32) (h3 : hi 10 3 = 17) (h6 : hi 13 6 = 1) (h7 : hi 13 7 = 1) (h8 : hi 13 8 = 1) (z14 : ∀ j, 1 ≤ j → j < 6 → hl 14 j = 0) (z15 : ∀ j, 1 ≤ j → j < 6 → hl 15 j = 0) (z17 : ∀ j, j < 6 → hl 17 j = 0)
    (h : ∀ hl', (∀ c, (c < 14 ∨ 19 < c) → hl' c = hl c) → (∀ σ, σ < 64 → ∀ j, j < 1 → bt (hl' 17 j) σ = (opM 17 ew eW eb el eu (nI (lvb (fun j => bt (hl 14 j) σ) 1)) (nI (lvb (fun j => bt (hl 15 j) σ) 1)) ez).toNatClampNeg.testBit j) → Φ hi hl') : wpG_join hi hl Φ := by
  have hv : vp_in (17 : Int32) 31 := vp31 17 (by decide)
  have e : swC (17 : Int32).toNatClampNeg = 16 := by decide
  have e2 : swC 17 = 16 := by decide
  unfold wpG_join wbG_join_0
  rw [h3, e]
  simp (decide := true) only [false_implies, true_implies, and_true, true_and, not_true, not_false_eq_true, hv]
  unfold wpG_compare wbG_compare_0
  rw [e]
  simp (decide := true) only [false_implies, true_implies, and_true, true_and, not_true, not_false_eq_true, hv]
  unfold wpG_equal wbG_equal_0
  refine ⟨2, ?_⟩
  simp [wbG_equal_6, h6, h7, h8, u2_ap, vp_in]
  refine h _ (fun c hc => ?_) (fun σ hσ j hj => ?_)
  · funext b
    simp only [u2_ap, cpL_ap]
    repeat rw [if_neg (by omega)]
  · have hc : j = 0 := by omega
    subst hc
    · simp (decide := true) only [opM, ↓reduceIte]
      simp [u2_ap, cpL_ap, va_cpy, bt_xor, bt_and, bt_or, bt_0, bt_m1 hσ, bt_cm hσ, lvb, z14 1 (by decide) (by decide), z14 2 (by decide) (by decide), z14 3 (by decide) (by decide), z14 4 (by decide) (by decide), z14 5 (by decide) (by decide), z15 1 (by decide) (by decide), z15 2 (by decide) (by decide), z15 3 (by decide) (by decide), z15 4 (by decide) (by decide), z15 5 (by decide) (by decide), z17 0 (by decide), z17 1 (by decide), z17 2 (by decide), z17 3 (by decide), z17 4 (by decide), z17 5 (by decide)]
      generalize bt (hl 14 0) σ = a0
      generalize bt (hl 15 0) σ = b0
      revert a0 b0
      decide +kernel
theorem jn_17_1_2_2 (hi : HI) (hl : HL) (Φ : HI → HL → Prop) (ew eW eb el eu ez : Int32) (h3 : hi 10 3 = 17) (h6 : hi 13 6 = 1) (h7 : hi 13 7 = 2) (h8 : hi 13 8 = 2) (z14 : ∀ j, 2 ≤ j → j < 6 → hl 14 j = 0) (z15 : ∀ j, 2 ≤ j → j < 6 → hl 15 j = 0) (z17 : ∀ j, j < 6 → hl 17 j = 0)
    (h : ∀ hl', (∀ c, (c < 14 ∨ 19 < c) → hl' c = hl c) → (∀ σ, σ < 64 → ∀ j, j < 1 → bt (hl' 17 j) σ = (opM 17 ew eW eb el eu (nI (lvb (fun j => bt (hl 14 j) σ) 2)) (nI (lvb (fun j => bt (hl 15 j) σ) 2)) ez).toNatClampNeg.testBit j) → Φ hi hl') : wpG_join hi hl Φ := by
  have hv : vp_in (17 : Int32) 31 := vp31 17 (by decide)
  have e : swC (17 : Int32).toNatClampNeg = 16 := by decide
  have e2 : swC 17 = 16 := by decide
  unfold wpG_join wbG_join_0
  rw [h3, e]
  simp (decide := true) only [false_implies, true_implies, and_true, true_and, not_true, not_false_eq_true, hv]
  unfold wpG_compare wbG_compare_0
  rw [e]
  simp (decide := true) only [false_implies, true_implies, and_true, true_and, not_true, not_false_eq_true, hv]
  unfold wpG_equal wbG_equal_0
  refine ⟨3, ?_⟩
  simp [wbG_equal_6, h6, h7, h8, u2_ap, vp_in]
  refine h _ (fun c hc => ?_) (fun σ hσ j hj => ?_)
  · funext b
    simp only [u2_ap, cpL_ap]
    repeat rw [if_neg (by omega)]
  · have hc : j = 0 := by omega
    subst hc
    · simp (decide := true) only [opM, ↓reduceIte]
      simp [u2_ap, cpL_ap, va_cpy, bt_xor, bt_and, bt_or, bt_0, bt_m1 hσ, bt_cm hσ, lvb, z14 2 (by decide) (by decide), z14 3 (by decide) (by decide), z14 4 (by decide) (by decide), z14 5 (by decide) (by decide), z15 2 (by decide) (by decide), z15 3 (by decide) (by decide), z15 4 (by decide) (by decide), z15 5 (by decide) (by decide), z17 0 (by decide), z17 1 (by decide), z17 2 (by decide), z17 3 (by decide), z17 4 (by decide), z17 5 (by decide)]
      generalize bt (hl 14 0) σ = a0
      generalize bt (hl 14 1) σ = a1
      generalize bt (hl 15 0) σ = b0
      generalize bt (hl 15 1) σ = b1
      revert a0 a1 b0 b1
      decide +kernel
theorem jn_17_1_3_3 (hi : HI) (hl : HL) (Φ : HI → HL → Prop) (ew eW eb el eu ez : Int32) (h3 : hi 10 3 = 17) (h6 : hi 13 6 = 1) (h7 : hi 13 7 = 3) (h8 : hi 13 8 = 3) (z14 : ∀ j, 3 ≤ j → j < 6 → hl 14 j = 0) (z15 : ∀ j, 3 ≤ j → j < 6 → hl 15 j = 0) (z17 : ∀ j, j < 6 → hl 17 j = 0)
    (h : ∀ hl', (∀ c, (c < 14 ∨ 19 < c) → hl' c = hl c) → (∀ σ, σ < 64 → ∀ j, j < 1 → bt (hl' 17 j) σ = (opM 17 ew eW eb el eu (nI (lvb (fun j => bt (hl 14 j) σ) 3)) (nI (lvb (fun j => bt (hl 15 j) σ) 3)) ez).toNatClampNeg.testBit j) → Φ hi hl') : wpG_join hi hl Φ := by
  have hv : vp_in (17 : Int32) 31 := vp31 17 (by decide)
  have e : swC (17 : Int32).toNatClampNeg = 16 := by decide
  have e2 : swC 17 = 16 := by decide
  unfold wpG_join wbG_join_0
  rw [h3, e]
  simp (decide := true) only [false_implies, true_implies, and_true, true_and, not_true, not_false_eq_true, hv]
  unfold wpG_compare wbG_compare_0
  rw [e]
  simp (decide := true) only [false_implies, true_implies, and_true, true_and, not_true, not_false_eq_true, hv]
  unfold wpG_equal wbG_equal_0
  refine ⟨4, ?_⟩
  simp [wbG_equal_6, h6, h7, h8, u2_ap, vp_in]
  refine h _ (fun c hc => ?_) (fun σ hσ j hj => ?_)
  · funext b
    simp only [u2_ap, cpL_ap]
    repeat rw [if_neg (by omega)]
  · have hc : j = 0 := by omega
    subst hc
    · simp (decide := true) only [opM, ↓reduceIte]
      simp [u2_ap, cpL_ap, va_cpy, bt_xor, bt_and, bt_or, bt_0, bt_m1 hσ, bt_cm hσ, lvb, z14 3 (by decide) (by decide), z14 4 (by decide) (by decide), z14 5 (by decide) (by decide), z15 3 (by decide) (by decide), z15 4 (by decide) (by decide), z15 5 (by decide) (by decide), z17 0 (by decide), z17 1 (by decide), z17 2 (by decide), z17 3 (by decide), z17 4 (by decide), z17 5 (by decide)]
      generalize bt (hl 14 0) σ = a0
      generalize bt (hl 14 1) σ = a1
      generalize bt (hl 14 2) σ = a2
      generalize bt (hl 15 0) σ = b0
      generalize bt (hl 15 1) σ = b1
      generalize bt (hl 15 2) σ = b2
      revert a0 a1 a2 b0 b1 b2
      decide +kernel
theorem jn_17_1_4_4 (hi : HI) (hl : HL) (Φ : HI → HL → Prop) (ew eW eb el eu ez : Int32) (h3 : hi 10 3 = 17) (h6 : hi 13 6 = 1) (h7 : hi 13 7 = 4) (h8 : hi 13 8 = 4) (z14 : ∀ j, 4 ≤ j → j < 6 → hl 14 j = 0) (z15 : ∀ j, 4 ≤ j → j < 6 → hl 15 j = 0) (z17 : ∀ j, j < 6 → hl 17 j = 0)
    (h : ∀ hl', (∀ c, (c < 14 ∨ 19 < c) → hl' c = hl c) → (∀ σ, σ < 64 → ∀ j, j < 1 → bt (hl' 17 j) σ = (opM 17 ew eW eb el eu (nI (lvb (fun j => bt (hl 14 j) σ) 4)) (nI (lvb (fun j => bt (hl 15 j) σ) 4)) ez).toNatClampNeg.testBit j) → Φ hi hl') : wpG_join hi hl Φ := by
  have hv : vp_in (17 : Int32) 31 := vp31 17 (by decide)
  have e : swC (17 : Int32).toNatClampNeg = 16 := by decide
  have e2 : swC 17 = 16 := by decide
  unfold wpG_join wbG_join_0
  rw [h3, e]
  simp (decide := true) only [false_implies, true_implies, and_true, true_and, not_true, not_false_eq_true, hv]
  unfold wpG_compare wbG_compare_0
  rw [e]
  simp (decide := true) only [false_implies, true_implies, and_true, true_and, not_true, not_false_eq_true, hv]
  unfold wpG_equal wbG_equal_0
  refine ⟨5, ?_⟩
  simp [wbG_equal_6, h6, h7, h8, u2_ap, vp_in]
  refine h _ (fun c hc => ?_) (fun σ hσ j hj => ?_)
  · funext b
    simp only [u2_ap, cpL_ap]
    repeat rw [if_neg (by omega)]
  · have hc : j = 0 := by omega
    subst hc
    · simp (decide := true) only [opM, ↓reduceIte]
      simp [u2_ap, cpL_ap, va_cpy, bt_xor, bt_and, bt_or, bt_0, bt_m1 hσ, bt_cm hσ, lvb, z14 4 (by decide) (by decide), z14 5 (by decide) (by decide), z15 4 (by decide) (by decide), z15 5 (by decide) (by decide), z17 0 (by decide), z17 1 (by decide), z17 2 (by decide), z17 3 (by decide), z17 4 (by decide), z17 5 (by decide)]
      generalize bt (hl 14 0) σ = a0
      generalize bt (hl 14 1) σ = a1
      generalize bt (hl 14 2) σ = a2
      generalize bt (hl 14 3) σ = a3
      generalize bt (hl 15 0) σ = b0
      generalize bt (hl 15 1) σ = b1
      generalize bt (hl 15 2) σ = b2
      generalize bt (hl 15 3) σ = b3
      revert a0 a1 a2 a3 b0 b1 b2 b3
      decide +kernel
theorem jn_17_1_6_6 (hi : HI) (hl : HL) (Φ : HI → HL → Prop) (ew eW eb el eu ez : Int32) (h3 : hi 10 3 = 17) (h6 : hi 13 6 = 1) (h7 : hi 13 7 = 6) (h8 : hi 13 8 = 6) (z14 : ∀ j, 6 ≤ j → j < 6 → hl 14 j = 0) (z15 : ∀ j, 6 ≤ j → j < 6 → hl 15 j = 0) (z17 : ∀ j, j < 6 → hl 17 j = 0)
    (h : ∀ hl', (∀ c, (c < 14 ∨ 19 < c) → hl' c = hl c) → (∀ σ, σ < 64 → ∀ j, j < 1 → bt (hl' 17 j) σ = (opM 17 ew eW eb el eu (nI (lvb (fun j => bt (hl 14 j) σ) 6)) (nI (lvb (fun j => bt (hl 15 j) σ) 6)) ez).toNatClampNeg.testBit j) → Φ hi hl') : wpG_join hi hl Φ := by
  have hv : vp_in (17 : Int32) 31 := vp31 17 (by decide)
  have e : swC (17 : Int32).toNatClampNeg = 16 := by decide
  have e2 : swC 17 = 16 := by decide
  unfold wpG_join wbG_join_0
  rw [h3, e]
  simp (decide := true) only [false_implies, true_implies, and_true, true_and, not_true, not_false_eq_true, hv]
  unfold wpG_compare wbG_compare_0
  rw [e]
  simp (decide := true) only [false_implies, true_implies, and_true, true_and, not_true, not_false_eq_true, hv]
  unfold wpG_equal wbG_equal_0
  refine ⟨7, ?_⟩
  simp [wbG_equal_6, h6, h7, h8, u2_ap, vp_in]
  refine h _ (fun c hc => ?_) (fun σ hσ j hj => ?_)
  · funext b
    simp only [u2_ap, cpL_ap]
    repeat rw [if_neg (by omega)]
  · have hc : j = 0 := by omega
    subst hc
    · simp (decide := true) only [opM, ↓reduceIte]
      simp [u2_ap, cpL_ap, va_cpy, bt_xor, bt_and, bt_or, bt_0, bt_m1 hσ, bt_cm hσ, lvb, z17 0 (by decide), z17 1 (by decide), z17 2 (by decide), z17 3 (by decide), z17 4 (by decide), z17 5 (by decide)]
      generalize bt (hl 14 0) σ = a0
      generalize bt (hl 14 1) σ = a1
      generalize bt (hl 14 2) σ = a2
      generalize bt (hl 14 3) σ = a3
      generalize bt (hl 14 4) σ = a4
      generalize bt (hl 14 5) σ = a5
      generalize bt (hl 15 0) σ = b0
      generalize bt (hl 15 1) σ = b1
      generalize bt (hl 15 2) σ = b2
      generalize bt (hl 15 3) σ = b3
      generalize bt (hl 15 4) σ = b4
      generalize bt (hl 15 5) σ = b5
      revert a0 a1 a2 a3 a4 a5 b0 b1 b2 b3 b4 b5
      decide +kernel
