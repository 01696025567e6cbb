/-! gates: what they give, kind by kind and width by width (printed by wip/whole/pure/gates.py) -/
theorem jn_4_1_1_0 (hi : HI) (hl : HL) (Φ : HI → HL → Prop) (eW eb el eu ey ez : Int32) (h3 : hi 10 3 = 4) (h6 : hi 13 6 = 1) (h7 : hi 13 7 = 1) (h8 : hi 13 8 = 0) (z14 : ∀ j, 1 ≤ j → j < 6 → hl 14 j = 0) (z15 : ∀ j, 0 ≤ j → j < 6 → hl 15 j = 0) (z17 : ∀ j, j < 6 → hl 17 j = 0)
    (h : ∀ hl', (∀ c, (c < 14 ∨ 19 < c) → hl' c = hl c) → (∀ σ, σ < 64 → ∀ j, j < 1 → bt (hl' 17 j) σ = (opM 4 (nI 1) eW eb el eu (nI (lvb (fun j => bt (hl 14 j) σ) 1)) ey ez).toNatClampNeg.testBit j) → Φ hi hl') : wpG_join hi hl Φ := by
  have hv : vp_in (4 : Int32) 31 := vp31 4 (by decide)
  have e : swC (4 : Int32).toNatClampNeg = 10 := by decide
  have e2 : swC 4 = 10 := by decide
  unfold wpG_join wbG_join_0
  rw [h3, e]
  simp (decide := true) only [false_implies, true_implies, and_true, true_and, not_true, not_false_eq_true, hv]
  unfold wpG_joinByBits wbG_joinByBits_0
  refine ⟨2, ?_⟩
  simp [wbG_joinByBits_2, wpG_joinBit, wbG_joinBit_0, wpG_choose, wbG_choose_0, hv, e2, h6, h7, h8, u2_ap, vp_in]
  refine h _ (fun c hc => ?_) (fun σ hσ j hj => ?_)
  · funext b
    simp only [u2_ap, cpL_ap]
    repeat rw [if_neg (by omega)]
  · have hc : j = 0 := by omega
    subst hc
    · simp (decide := true) only [opM, ↓reduceIte]
      simp [u2_ap, cpL_ap, va_cpy, bt_xor, bt_and, bt_or, bt_0, bt_m1 hσ, bt_cm hσ, lvb, z14 1 (by decide) (by decide), z14 2 (by decide) (by decide), z14 3 (by decide) (by decide), z14 4 (by decide) (by decide), z14 5 (by decide) (by decide), z15 0 (by decide) (by decide), z15 1 (by decide) (by decide), z15 2 (by decide) (by decide), z15 3 (by decide) (by decide), z15 4 (by decide) (by decide), z15 5 (by decide) (by decide), z17 0 (by decide), z17 1 (by decide), z17 2 (by decide), z17 3 (by decide), z17 4 (by decide), z17 5 (by decide)]
      generalize bt (hl 14 0) σ = a0
      revert a0
      decide +kernel
theorem jn_5_1_1_0 (hi : HI) (hl : HL) (Φ : HI → HL → Prop) (eW eb el eu ey ez : Int32) (h3 : hi 10 3 = 5) (h6 : hi 13 6 = 1) (h7 : hi 13 7 = 1) (h8 : hi 13 8 = 0) (z14 : ∀ j, 1 ≤ j → j < 6 → hl 14 j = 0) (z15 : ∀ j, 0 ≤ j → j < 6 → hl 15 j = 0) (z17 : ∀ j, j < 6 → hl 17 j = 0)
    (h : ∀ hl', (∀ c, (c < 14 ∨ 19 < c) → hl' c = hl c) → (∀ σ, σ < 64 → ∀ j, j < 1 → bt (hl' 17 j) σ = (opM 5 (nI 1) eW eb el eu (nI (lvb (fun j => bt (hl 14 j) σ) 1)) ey ez).toNatClampNeg.testBit j) → Φ hi hl') : wpG_join hi hl Φ := by
  have hv : vp_in (5 : Int32) 31 := vp31 5 (by decide)
  have e : swC (5 : Int32).toNatClampNeg = 24 := by decide
  have e2 : swC 5 = 24 := by decide
  unfold wpG_join wbG_join_0
  rw [h3, e]
  simp (decide := true) only [false_implies, true_implies, and_true, true_and, not_true, not_false_eq_true, hv]
  unfold wpG_reckon wbG_reckon_0
  rw [e]
  simp (decide := true) only [false_implies, true_implies, and_true, true_and, not_true, not_false_eq_true, hv]
  unfold wpG_addUp wbG_addUp_0
  refine ⟨2, ?_⟩
  simp [wbG_addUp_6, wpG_carryOf, wbG_carryOf_0, h6, h7, h8, u2_ap, vp_in]
  refine h _ (fun c hc => ?_) (fun σ hσ j hj => ?_)
  · funext b
    simp only [u2_ap, cpL_ap]
    repeat rw [if_neg (by omega)]
  · have hc : j = 0 := by omega
    subst hc
    · simp (decide := true) only [opM, ↓reduceIte]
      simp [u2_ap, cpL_ap, va_cpy, bt_xor, bt_and, bt_or, bt_0, bt_m1 hσ, bt_cm hσ, lvb, z14 1 (by decide) (by decide), z14 2 (by decide) (by decide), z14 3 (by decide) (by decide), z14 4 (by decide) (by decide), z14 5 (by decide) (by decide), z15 0 (by decide) (by decide), z15 1 (by decide) (by decide), z15 2 (by decide) (by decide), z15 3 (by decide) (by decide), z15 4 (by decide) (by decide), z15 5 (by decide) (by decide), z17 0 (by decide), z17 1 (by decide), z17 2 (by decide), z17 3 (by decide), z17 4 (by decide), z17 5 (by decide)]
      generalize bt (hl 14 0) σ = a0
      revert a0
      decide +kernel
theorem jn_7_1_1_1 (hi : HI) (hl : HL) (Φ : HI → HL → Prop) (ew eW eb el eu ez : Int32) (h3 : hi 10 3 = 7) (h6 : hi 13 6 = 1) (h7 : hi 13 7 = 1) (h8 : hi 13 8 = 1) (z14 : ∀ j, 1 ≤ j → j < 6 → hl 14 j = 0) (z15 : ∀ j, 1 ≤ j → j < 6 → hl 15 j = 0) (z17 : ∀ j, j < 6 → hl 17 j = 0)
    (h : ∀ hl', (∀ c, (c < 14 ∨ 19 < c) → hl' c = hl c) → (∀ σ, σ < 64 → ∀ j, j < 1 → bt (hl' 17 j) σ = (opM 7 ew eW eb el eu (nI (lvb (fun j => bt (hl 14 j) σ) 1)) (nI (lvb (fun j => bt (hl 15 j) σ) 1)) ez).toNatClampNeg.testBit j) → Φ hi hl') : wpG_join hi hl Φ := by
  have hv : vp_in (7 : Int32) 31 := vp31 7 (by decide)
  have e : swC (7 : Int32).toNatClampNeg = 11 := by decide
  have e2 : swC 7 = 11 := by decide
  unfold wpG_join wbG_join_0
  rw [h3, e]
  simp (decide := true) only [false_implies, true_implies, and_true, true_and, not_true, not_false_eq_true, hv]
  unfold wpG_joinByBits wbG_joinByBits_0
  refine ⟨2, ?_⟩
  simp [wbG_joinByBits_2, wpG_joinBit, wbG_joinBit_0, wpG_choose, wbG_choose_0, hv, e2, h6, h7, h8, u2_ap, vp_in]
  refine h _ (fun c hc => ?_) (fun σ hσ j hj => ?_)
  · funext b
    simp only [u2_ap, cpL_ap]
    repeat rw [if_neg (by omega)]
  · have hc : j = 0 := by omega
    subst hc
    · simp (decide := true) only [opM, ↓reduceIte]
      simp [u2_ap, cpL_ap, va_cpy, bt_xor, bt_and, bt_or, bt_0, bt_m1 hσ, bt_cm hσ, lvb, z14 1 (by decide) (by decide), z14 2 (by decide) (by decide), z14 3 (by decide) (by decide), z14 4 (by decide) (by decide), z14 5 (by decide) (by decide), z15 1 (by decide) (by decide), z15 2 (by decide) (by decide), z15 3 (by decide) (by decide), z15 4 (by decide) (by decide), z15 5 (by decide) (by decide), z17 0 (by decide), z17 1 (by decide), z17 2 (by decide), z17 3 (by decide), z17 4 (by decide), z17 5 (by decide)]
      generalize bt (hl 14 0) σ = a0
      generalize bt (hl 15 0) σ = b0
      revert a0 b0
      decide +kernel
theorem jn_8_1_1_1 (hi : HI) (hl : HL) (Φ : HI → HL → Prop) (ew eW eb el eu ez : Int32) (h3 : hi 10 3 = 8) (h6 : hi 13 6 = 1) (h7 : hi 13 7 = 1) (h8 : hi 13 8 = 1) (z14 : ∀ j, 1 ≤ j → j < 6 → hl 14 j = 0) (z15 : ∀ j, 1 ≤ j → j < 6 → hl 15 j = 0) (z17 : ∀ j, j < 6 → hl 17 j = 0)
    (h : ∀ hl', (∀ c, (c < 14 ∨ 19 < c) → hl' c = hl c) → (∀ σ, σ < 64 → ∀ j, j < 1 → bt (hl' 17 j) σ = (opM 8 ew eW eb el eu (nI (lvb (fun j => bt (hl 14 j) σ) 1)) (nI (lvb (fun j => bt (hl 15 j) σ) 1)) ez).toNatClampNeg.testBit j) → Φ hi hl') : wpG_join hi hl Φ := by
  have hv : vp_in (8 : Int32) 31 := vp31 8 (by decide)
  have e : swC (8 : Int32).toNatClampNeg = 12 := by decide
  have e2 : swC 8 = 12 := by decide
  unfold wpG_join wbG_join_0
  rw [h3, e]
  simp (decide := true) only [false_implies, true_implies, and_true, true_and, not_true, not_false_eq_true, hv]
  unfold wpG_joinByBits wbG_joinByBits_0
  refine ⟨2, ?_⟩
  simp [wbG_joinByBits_2, wpG_joinBit, wbG_joinBit_0, wpG_choose, wbG_choose_0, hv, e2, h6, h7, h8, u2_ap, vp_in]
  refine h _ (fun c hc => ?_) (fun σ hσ j hj => ?_)
  · funext b
    simp only [u2_ap, cpL_ap]
    repeat rw [if_neg (by omega)]
  · have hc : j = 0 := by omega
    subst hc
    · simp (decide := true) only [opM, ↓reduceIte]
      simp [u2_ap, cpL_ap, va_cpy, bt_xor, bt_and, bt_or, bt_0, bt_m1 hσ, bt_cm hσ, lvb, z14 1 (by decide) (by decide), z14 2 (by decide) (by decide), z14 3 (by decide) (by decide), z14 4 (by decide) (by decide), z14 5 (by decide) (by decide), z15 1 (by decide) (by decide), z15 2 (by decide) (by decide), z15 3 (by decide) (by decide), z15 4 (by decide) (by decide), z15 5 (by decide) (by decide), z17 0 (by decide), z17 1 (by decide), z17 2 (by decide), z17 3 (by decide), z17 4 (by decide), z17 5 (by decide)]
      generalize bt (hl 14 0) σ = a0
      generalize bt (hl 15 0) σ = b0
      revert a0 b0
      decide +kernel
theorem jn_9_1_1_1 (hi : HI) (hl : HL) (Φ : HI → HL → Prop) (ew eW eb el eu ez : Int32) (h3 : hi 10 3 = 9) (h6 : hi 13 6 = 1) (h7 : hi 13 7 = 1) (h8 : hi 13 8 = 1) (z14 : ∀ j, 1 ≤ j → j < 6 → hl 14 j = 0) (z15 : ∀ j, 1 ≤ j → j < 6 → hl 15 j = 0) (z17 : ∀ j, j < 6 → hl 17 j = 0)
    (h : ∀ hl', (∀ c, (c < 14 ∨ 19 < c) → hl' c = hl c) → (∀ σ, σ < 64 → ∀ j, j < 1 → bt (hl' 17 j) σ = (opM 9 ew eW eb el eu (nI (lvb (fun j => bt (hl 14 j) σ) 1)) (nI (lvb (fun j => bt (hl 15 j) σ) 1)) ez).toNatClampNeg.testBit j) → Φ hi hl') : wpG_join hi hl Φ := by
  have hv : vp_in (9 : Int32) 31 := vp31 9 (by decide)
  have e : swC (9 : Int32).toNatClampNeg = 13 := by decide
  have e2 : swC 9 = 13 := by decide
  unfold wpG_join wbG_join_0
  rw [h3, e]
  simp (decide := true) only [false_implies, true_implies, and_true, true_and, not_true, not_false_eq_true, hv]
  unfold wpG_joinByBits wbG_joinByBits_0
  refine ⟨2, ?_⟩
  simp [wbG_joinByBits_2, wpG_joinBit, wbG_joinBit_0, wpG_choose, wbG_choose_0, hv, e2, h6, h7, h8, u2_ap, vp_in]
  refine h _ (fun c hc => ?_) (fun σ hσ j hj => ?_)
  · funext b
    simp only [u2_ap, cpL_ap]
    repeat rw [if_neg (by omega)]
  · have hc : j = 0 := by omega
    subst hc
    · simp (decide := true) only [opM, ↓reduceIte]
      simp [u2_ap, cpL_ap, va_cpy, bt_xor, bt_and, bt_or, bt_0, bt_m1 hσ, bt_cm hσ, lvb, z14 1 (by decide) (by decide), z14 2 (by decide) (by decide), z14 3 (by decide) (by decide), z14 4 (by decide) (by decide), z14 5 (by decide) (by decide), z15 1 (by decide) (by decide), z15 2 (by decide) (by decide), z15 3 (by decide) (by decide), z15 4 (by decide) (by decide), z15 5 (by decide) (by decide), z17 0 (by decide), z17 1 (by decide), z17 2 (by decide), z17 3 (by decide), z17 4 (by decide), z17 5 (by decide)]
      generalize bt (hl 14 0) σ = a0
      generalize bt (hl 15 0) σ = b0
      revert a0 b0
      decide +kernel
theorem jn_10_1_1_1 (hi : HI) (hl : HL) (Φ : HI → HL → Prop) (eW eb el eu ez : Int32) (h3 : hi 10 3 = 10) (h6 : hi 13 6 = 1) (h7 : hi 13 7 = 1) (h8 : hi 13 8 = 1) (z14 : ∀ j, 1 ≤ j → j < 6 → hl 14 j = 0) (z15 : ∀ j, 1 ≤ j → j < 6 → hl 15 j = 0) (z17 : ∀ j, j < 6 → hl 17 j = 0)
    (h : ∀ hl', (∀ c, (c < 14 ∨ 19 < c) → hl' c = hl c) → (∀ σ, σ < 64 → ∀ j, j < 1 → bt (hl' 17 j) σ = (opM 10 (nI 1) eW eb el eu (nI (lvb (fun j => bt (hl 14 j) σ) 1)) (nI (lvb (fun j => bt (hl 15 j) σ) 1)) ez).toNatClampNeg.testBit j) → Φ hi hl') : wpG_join hi hl Φ := by
  have hv : vp_in (10 : Int32) 31 := vp31 10 (by decide)
  have e : swC (10 : Int32).toNatClampNeg = 25 := by decide
  have e2 : swC 10 = 25 := by decide
  unfold wpG_join wbG_join_0
  rw [h3, e]
  simp (decide := true) only [false_implies, true_implies, and_true, true_and, not_true, not_false_eq_true, hv]
  unfold wpG_reckon wbG_reckon_0
  rw [e]
  simp (decide := true) only [false_implies, true_implies, and_true, true_and, not_true, not_false_eq_true, hv]
  unfold wpG_addUp wbG_addUp_0
  refine ⟨2, ?_⟩
  simp [wbG_addUp_6, wpG_carryOf, wbG_carryOf_0, h6, h7, h8, u2_ap, vp_in]
  refine h _ (fun c hc => ?_) (fun σ hσ j hj => ?_)
  · funext b
    simp only [u2_ap, cpL_ap]
    repeat rw [if_neg (by omega)]
  · have hc : j = 0 := by omega
    subst hc
    · simp (decide := true) only [opM, ↓reduceIte]
      simp [u2_ap, cpL_ap, va_cpy, bt_xor, bt_and, bt_or, bt_0, bt_m1 hσ, bt_cm hσ, lvb, z14 1 (by decide) (by decide), z14 2 (by decide) (by decide), z14 3 (by decide) (by decide), z14 4 (by decide) (by decide), z14 5 (by decide) (by decide), z15 1 (by decide) (by decide), z15 2 (by decide) (by decide), z15 3 (by decide) (by decide), z15 4 (by decide) (by decide), z15 5 (by decide) (by decide), z17 0 (by decide), z17 1 (by decide), z17 2 (by decide), z17 3 (by decide), z17 4 (by decide), z17 5 (by decide)]
      generalize bt (hl 14 0) σ = a0
      generalize bt (hl 15 0) σ = b0
      revert a0 b0
      decide +kernel
theorem jn_11_1_1_1 (hi : HI) (hl : HL) (Φ : HI → HL → Prop) (eW eb el eu ez : Int32) (h3 : hi 10 3 = 11) (h6 : hi 13 6 = 1) (h7 : hi 13 7 = 1) (h8 : hi 13 8 = 1) (z14 : ∀ j, 1 ≤ j → j < 6 → hl 14 j = 0) (z15 : ∀ j, 1 ≤ j → j < 6 → hl 15 j = 0) (z17 : ∀ j, j < 6 → hl 17 j = 0)
    (h : ∀ hl', (∀ c, (c < 14 ∨ 19 < c) → hl' c = hl c) → (∀ σ, σ < 64 → ∀ j, j < 1 → bt (hl' 17 j) σ = (opM 11 (nI 1) eW eb el eu (nI (lvb (fun j => bt (hl 14 j) σ) 1)) (nI (lvb (fun j => bt (hl 15 j) σ) 1)) ez).toNatClampNeg.testBit j) → Φ hi hl') : wpG_join hi hl Φ := by
  have hv : vp_in (11 : Int32) 31 := vp31 11 (by decide)
  have e : swC (11 : Int32).toNatClampNeg = 26 := by decide
  have e2 : swC 11 = 26 := by decide
  unfold wpG_join wbG_join_0
  rw [h3, e]
  simp (decide := true) only [false_implies, true_implies, and_true, true_and, not_true, not_false_eq_true, hv]
  unfold wpG_reckon wbG_reckon_0
  rw [e]
  simp (decide := true) only [false_implies, true_implies, and_true, true_and, not_true, not_false_eq_true, hv]
  unfold wpG_addUp wbG_addUp_0
  refine ⟨2, ?_⟩
  simp [wbG_addUp_6, wpG_carryOf, wbG_carryOf_0, h6, h7, h8, u2_ap, vp_in]
  refine h _ (fun c hc => ?_) (fun σ hσ j hj => ?_)
  · funext b
    simp only [u2_ap, cpL_ap]
    repeat rw [if_neg (by omega)]
  · have hc : j = 0 := by omega
    subst hc
    · simp (decide := true) only [opM, ↓reduceIte]
      simp [u2_ap, cpL_ap, va_cpy, bt_xor, bt_and, bt_or, bt_0, bt_m1 hσ, bt_cm hσ, lvb, z14 1 (by decide) (by decide), z14 2 (by decide) (by decide), z14 3 (by decide) (by decide), z14 4 (by decide) (by decide), z14 5 (by decide) (by decide), z15 1 (by decide) (by decide), z15 2 (by decide) (by decide), z15 3 (by decide) (by decide), z15 4 (by decide) (by decide), z15 5 (by decide) (by decide), z17 0 (by decide), z17 1 (by decide), z17 2 (by decide), z17 3 (by decide), z17 4 (by decide), z17 5 (by decide)]
      generalize bt (hl 14 0) σ = a0
      generalize bt (hl 15 0) σ = b0
      revert a0 b0
      decide +kernel
theorem jn_4_2_2_0 (hi : HI) (hl : HL) (Φ : HI → HL → Prop) (eW eb el eu ey ez : Int32) (h3 : hi 10 3 = 4) (h6 : hi 13 6 = 2) (h7 : hi 13 7 = 2) (h8 : hi 13 8 = 0) (z14 : ∀ j, 2 ≤ j → j < 6 → hl 14 j = 0) (z15 : ∀ j, 0 ≤ j → j < 6 → hl 15 j = 0) (z17 : ∀ j, j < 6 → hl 17 j = 0)
    (h : ∀ hl', (∀ c, (c < 14 ∨ 19 < c) → hl' c = hl c) → (∀ σ, σ < 64 → ∀ j, j < 2 → bt (hl' 17 j) σ = (opM 4 (nI 2) eW eb el eu (nI (lvb (fun j => bt (hl 14 j) σ) 2)) ey ez).toNatClampNeg.testBit j) → Φ hi hl') : wpG_join hi hl Φ := by
  have hv : vp_in (4 : Int32) 31 := vp31 4 (by decide)
  have e : swC (4 : Int32).toNatClampNeg = 10 := by decide
  have e2 : swC 4 = 10 := by decide
  unfold wpG_join wbG_join_0
  rw [h3, e]
  simp (decide := true) only [false_implies, true_implies, and_true, true_and, not_true, not_false_eq_true, hv]
  unfold wpG_joinByBits wbG_joinByBits_0
  refine ⟨3, ?_⟩
  simp [wbG_joinByBits_2, wpG_joinBit, wbG_joinBit_0, wpG_choose, wbG_choose_0, hv, e2, h6, h7, h8, u2_ap, vp_in]
  refine h _ (fun c hc => ?_) (fun σ hσ j hj => ?_)
  · funext b
    simp only [u2_ap, cpL_ap]
    repeat rw [if_neg (by omega)]
  · have hc : j = 0 ∨ j = 1 := by omega
    rcases hc with rfl | rfl
    · simp (decide := true) only [opM, ↓reduceIte]
      simp [u2_ap, cpL_ap, va_cpy, bt_xor, bt_and, bt_or, bt_0, bt_m1 hσ, bt_cm hσ, lvb, z14 2 (by decide) (by decide), z14 3 (by decide) (by decide), z14 4 (by decide) (by decide), z14 5 (by decide) (by decide), z15 0 (by decide) (by decide), z15 1 (by decide) (by decide), z15 2 (by decide) (by decide), z15 3 (by decide) (by decide), z15 4 (by decide) (by decide), z15 5 (by decide) (by decide), z17 0 (by decide), z17 1 (by decide), z17 2 (by decide), z17 3 (by decide), z17 4 (by decide), z17 5 (by decide)]
      generalize bt (hl 14 0) σ = a0
      generalize bt (hl 14 1) σ = a1
      revert a0 a1
      decide +kernel
    · simp (decide := true) only [opM, ↓reduceIte]
      simp [u2_ap, cpL_ap, va_cpy, bt_xor, bt_and, bt_or, bt_0, bt_m1 hσ, bt_cm hσ, lvb, z14 2 (by decide) (by decide), z14 3 (by decide) (by decide), z14 4 (by decide) (by decide), z14 5 (by decide) (by decide), z15 0 (by decide) (by decide), z15 1 (by decide) (by decide), z15 2 (by decide) (by decide), z15 3 (by decide) (by decide), z15 4 (by decide) (by decide), z15 5 (by decide) (by decide), z17 0 (by decide), z17 1 (by decide), z17 2 (by decide), z17 3 (by decide), z17 4 (by decide), z17 5 (by decide)]
      generalize bt (hl 14 0) σ = a0
      generalize bt (hl 14 1) σ = a1
      revert a0 a1
      decide +kernel
theorem jn_5_2_2_0 (hi : HI) (hl : HL) (Φ : HI → HL → Prop) (eW eb el eu ey ez : Int32) (h3 : hi 10 3 = 5) (h6 : hi 13 6 = 2) (h7 : hi 13 7 = 2) (h8 : hi 13 8 = 0) (z14 : ∀ j, 2 ≤ j → j < 6 → hl 14 j = 0) (z15 : ∀ j, 0 ≤ j → j < 6 → hl 15 j = 0) (z17 : ∀ j, j < 6 → hl 17 j = 0)
    (h : ∀ hl', (∀ c, (c < 14 ∨ 19 < c) → hl' c = hl c) → (∀ σ, σ < 64 → ∀ j, j < 2 → bt (hl' 17 j) σ = (opM 5 (nI 2) eW eb el eu (nI (lvb (fun j => bt (hl 14 j) σ) 2)) ey ez).toNatClampNeg.testBit j) → Φ hi hl') : wpG_join hi hl Φ := by
  have hv : vp_in (5 : Int32) 31 := vp31 5 (by decide)
  have e : swC (5 : Int32).toNatClampNeg = 24 := by decide
  have e2 : swC 5 = 24 := by decide
  unfold wpG_join wbG_join_0
  rw [h3, e]
  simp (decide := true) only [false_implies, true_implies, and_true, true_and, not_true, not_false_eq_true, hv]
  unfold wpG_reckon wbG_reckon_0
  rw [e]
  simp (decide := true) only [false_implies, true_implies, and_true, true_and, not_true, not_false_eq_true, hv]
  unfold wpG_addUp wbG_addUp_0
  refine ⟨3, ?_⟩
  simp [wbG_addUp_6, wpG_carryOf, wbG_carryOf_0, h6, h7, h8, u2_ap, vp_in]
  refine h _ (fun c hc => ?_) (fun σ hσ j hj => ?_)
  · funext b
    simp only [u2_ap, cpL_ap]
    repeat rw [if_neg (by omega)]
  · have hc : j = 0 ∨ j = 1 := by omega
    rcases hc with rfl | rfl
    · simp (decide := true) only [opM, ↓reduceIte]
      simp [u2_ap, cpL_ap, va_cpy, bt_xor, bt_and, bt_or, bt_0, bt_m1 hσ, bt_cm hσ, lvb, z14 2 (by decide) (by decide), z14 3 (by decide) (by decide), z14 4 (by decide) (by decide), z14 5 (by decide) (by decide), z15 0 (by decide) (by decide), z15 1 (by decide) (by decide), z15 2 (by decide) (by decide), z15 3 (by decide) (by decide), z15 4 (by decide) (by decide), z15 5 (by decide) (by decide), z17 0 (by decide), z17 1 (by decide), z17 2 (by decide), z17 3 (by decide), z17 4 (by decide), z17 5 (by decide)]
      generalize bt (hl 14 0) σ = a0
      generalize bt (hl 14 1) σ = a1
      revert a0 a1
      decide +kernel
    · simp (decide := true) only [opM, ↓reduceIte]
      simp [u2_ap, cpL_ap, va_cpy, bt_xor, bt_and, bt_or, bt_0, bt_m1 hσ, bt_cm hσ, lvb, z14 2 (by decide) (by decide), z14 3 (by decide) (by decide), z14 4 (by decide) (by decide), z14 5 (by decide) (by decide), z15 0 (by decide) (by decide), z15 1 (by decide) (by decide), z15 2 (by decide) (by decide), z15 3 (by decide) (by decide), z15 4 (by decide) (by decide), z15 5 (by decide) (by decide), z17 0 (by decide), z17 1 (by decide), z17 2 (by decide), z17 3 (by decide), z17 4 (by decide), z17 5 (by decide)]
      generalize bt (hl 14 0) σ = a0
      generalize bt (hl 14 1) σ = a1
      revert a0 a1
      decide +kernel
theorem jn_7_2_2_2 (hi : HI) (hl : HL) (Φ : HI → HL → Prop) (ew eW eb el eu ez : Int32) (h3 : hi 10 3 = 7) (h6 : hi 13 6 = 2) (h7 : hi 13 7 = 2) (h8 : hi 13 8 = 2) (z14 : ∀ j, 2 ≤ j → j < 6 → hl 14 j = 0) (z15 : ∀ j, 2 ≤ j → j < 6 → hl 15 j = 0) (z17 : ∀ j, j < 6 → hl 17 j = 0)
    (h : ∀ hl', (∀ c, (c < 14 ∨ 19 < c) → hl' c = hl c) → (∀ σ, σ < 64 → ∀ j, j < 2 → bt (hl' 17 j) σ = (opM 7 ew eW eb el eu (nI (lvb (fun j => bt (hl 14 j) σ) 2)) (nI (lvb (fun j => bt (hl 15 j) σ) 2)) ez).toNatClampNeg.testBit j) → Φ hi hl') : wpG_join hi hl Φ := by
  have hv : vp_in (7 : Int32) 31 := vp31 7 (by decide)
  have e : swC (7 : Int32).toNatClampNeg = 11 := by decide
  have e2 : swC 7 = 11 := by decide
  unfold wpG_join wbG_join_0
  rw [h3, e]
  simp (decide := true) only [false_implies, true_implies, and_true, true_and, not_true, not_false_eq_true, hv]
  unfold wpG_joinByBits wbG_joinByBits_0
  refine ⟨3, ?_⟩
  simp [wbG_joinByBits_2, wpG_joinBit, wbG_joinBit_0, wpG_choose, wbG_choose_0, hv, e2, h6, h7, h8, u2_ap, vp_in]
  refine h _ (fun c hc => ?_) (fun σ hσ j hj => ?_)
  · funext b
    simp only [u2_ap, cpL_ap]
    repeat rw [if_neg (by omega)]
  · have hc : j = 0 ∨ j = 1 := by omega
    rcases hc with rfl | rfl
    · simp (decide := true) only [opM, ↓reduceIte]
      simp [u2_ap, cpL_ap, va_cpy, bt_xor, bt_and, bt_or, bt_0, bt_m1 hσ, bt_cm hσ, lvb, z14 2 (by decide) (by decide), z14 3 (by decide) (by decide), z14 4 (by decide) (by decide), z14 5 (by decide) (by decide), z15 2 (by decide) (by decide), z15 3 (by decide) (by decide), z15 4 (by decide) (by decide), z15 5 (by decide) (by decide), z17 0 (by decide), z17 1 (by decide), z17 2 (by decide), z17 3 (by decide), z17 4 (by decide), z17 5 (by decide)]
      generalize bt (hl 14 0) σ = a0
      generalize bt (hl 14 1) σ = a1
      generalize bt (hl 15 0) σ = b0
      generalize bt (hl 15 1) σ = b1
      revert a0 a1 b0 b1
      decide +kernel
    · simp (decide := true) only [opM, ↓reduceIte]
      simp [u2_ap, cpL_ap, va_cpy, bt_xor, bt_and, bt_or, bt_0, bt_m1 hσ, bt_cm hσ, lvb, z14 2 (by decide) (by decide), z14 3 (by decide) (by decide), z14 4 (by decide) (by decide), z14 5 (by decide) (by decide), z15 2 (by decide) (by decide), z15 3 (by decide) (by decide), z15 4 (by decide) (by decide), z15 5 (by decide) (by decide), z17 0 (by decide), z17 1 (by decide), z17 2 (by decide), z17 3 (by decide), z17 4 (by decide), z17 5 (by decide)]
      generalize bt (hl 14 0) σ = a0
      generalize bt (hl 14 1) σ = a1
      generalize bt (hl 15 0) σ = b0
      generalize bt (hl 15 1) σ = b1
      revert a0 a1 b0 b1
      decide +kernel
theorem jn_8_2_2_2 (hi : HI) (hl : HL) (Φ : HI → HL → Prop) (ew eW eb el eu ez : Int32) (h3 : hi 10 3 = 8) (h6 : hi 13 6 = 2) (h7 : hi 13 7 = 2) (h8 : hi 13 8 = 2) (z14 : ∀ j, 2 ≤ j → j < 6 → hl 14 j = 0) (z15 : ∀ j, 2 ≤ j → j < 6 → hl 15 j = 0) (z17 : ∀ j, j < 6 → hl 17 j = 0)
    (h : ∀ hl', (∀ c, (c < 14 ∨ 19 < c) → hl' c = hl c) → (∀ σ, σ < 64 → ∀ j, j < 2 → bt (hl' 17 j) σ = (opM 8 ew eW eb el eu (nI (lvb (fun j => bt (hl 14 j) σ) 2)) (nI (lvb (fun j => bt (hl 15 j) σ) 2)) ez).toNatClampNeg.testBit j) → Φ hi hl') : wpG_join hi hl Φ := by
  have hv : vp_in (8 : Int32) 31 := vp31 8 (by decide)
  have e : swC (8 : Int32).toNatClampNeg = 12 := by decide
  have e2 : swC 8 = 12 := by decide
  unfold wpG_join wbG_join_0
  rw [h3, e]
  simp (decide := true) only [false_implies, true_implies, and_true, true_and, not_true, not_false_eq_true, hv]
  unfold wpG_joinByBits wbG_joinByBits_0
  refine ⟨3, ?_⟩
  simp [wbG_joinByBits_2, wpG_joinBit, wbG_joinBit_0, wpG_choose, wbG_choose_0, hv, e2, h6, h7, h8, u2_ap, vp_in]
  refine h _ (fun c hc => ?_) (fun σ hσ j hj => ?_)
  · funext b
    simp only [u2_ap, cpL_ap]
    repeat rw [if_neg (by omega)]
  · have hc : j = 0 ∨ j = 1 := by omega
    rcases hc with rfl | rfl
    · simp (decide := true) only [opM, ↓reduceIte]
      simp [u2_ap, cpL_ap, va_cpy, bt_xor, bt_and, bt_or, bt_0, bt_m1 hσ, bt_cm hσ, lvb, z14 2 (by decide) (by decide), z14 3 (by decide) (by decide), z14 4 (by decide) (by decide), z14 5 (by decide) (by decide), z15 2 (by decide) (by decide), z15 3 (by decide) (by decide), z15 4 (by decide) (by decide), z15 5 (by decide) (by decide), z17 0 (by decide), z17 1 (by decide), z17 2 (by decide), z17 3 (by decide), z17 4 (by decide), z17 5 (by decide)]
      generalize bt (hl 14 0) σ = a0
      generalize bt (hl 14 1) σ = a1
      generalize bt (hl 15 0) σ = b0
      generalize bt (hl 15 1) σ = b1
      revert a0 a1 b0 b1
      decide +kernel
    · simp (decide := true) only [opM, ↓reduceIte]
      simp [u2_ap, cpL_ap, va_cpy, bt_xor, bt_and, bt_or, bt_0, bt_m1 hσ, bt_cm hσ, lvb, z14 2 (by decide) (by decide), z14 3 (by decide) (by decide), z14 4 (by decide) (by decide), z14 5 (by decide) (by decide), z15 2 (by decide) (by decide), z15 3 (by decide) (by decide), z15 4 (by decide) (by decide), z15 5 (by decide) (by decide), z17 0 (by decide), z17 1 (by decide), z17 2 (by decide), z17 3 (by decide), z17 4 (by decide), z17 5 (by decide)]
      generalize bt (hl 14 0) σ = a0
      generalize bt (hl 14 1) σ = a1
      generalize bt (hl 15 0) σ = b0
      generalize bt (hl 15 1) σ = b1
      revert a0 a1 b0 b1
      decide +kernel
theorem jn_9_2_2_2 (hi : HI) (hl : HL) (Φ : HI → HL → Prop) (ew eW eb el eu ez : Int32) (h3 : hi 10 3 = 9) (h6 : hi 13 6 = 2) (h7 : hi 13 7 = 2) (h8 : hi 13 8 = 2) (z14 : ∀ j, 2 ≤ j → j < 6 → hl 14 j = 0) (z15 : ∀ j, 2 ≤ j → j < 6 → hl 15 j = 0) (z17 : ∀ j, j < 6 → hl 17 j = 0)
    (h : ∀ hl', (∀ c, (c < 14 ∨ 19 < c) → hl' c = hl c) → (∀ σ, σ < 64 → ∀ j, j < 2 → bt (hl' 17 j) σ = (opM 9 ew eW eb el eu (nI (lvb (fun j => bt (hl 14 j) σ) 2)) (nI (lvb (fun j => bt (hl 15 j) σ) 2)) ez).toNatClampNeg.testBit j) → Φ hi hl') : wpG_join hi hl Φ := by
  have hv : vp_in (9 : Int32) 31 := vp31 9 (by decide)
  have e : swC (9 : Int32).toNatClampNeg = 13 := by decide
  have e2 : swC 9 = 13 := by decide
  unfold wpG_join wbG_join_0
  rw [h3, e]
  simp (decide := true) only [false_implies, true_implies, and_true, true_and, not_true, not_false_eq_true, hv]
  unfold wpG_joinByBits wbG_joinByBits_0
  refine ⟨3, ?_⟩
  simp [wbG_joinByBits_2, wpG_joinBit, wbG_joinBit_0, wpG_choose, wbG_choose_0, hv, e2, h6, h7, h8, u2_ap, vp_in]
  refine h _ (fun c hc => ?_) (fun σ hσ j hj => ?_)
  · funext b
    simp only [u2_ap, cpL_ap]
    repeat rw [if_neg (by omega)]
  · have hc : j = 0 ∨ j = 1 := by omega
    rcases hc with rfl | rfl
    · simp (decide := true) only [opM, ↓reduceIte]
      simp [u2_ap, cpL_ap, va_cpy, bt_xor, bt_and, bt_or, bt_0, bt_m1 hσ, bt_cm hσ, lvb, z14 2 (by decide) (by decide), z14 3 (by decide) (by decide), z14 4 (by decide) (by decide), z14 5 (by decide) (by decide), z15 2 (by decide) (by decide), z15 3 (by decide) (by decide), z15 4 (by decide) (by decide), z15 5 (by decide) (by decide), z17 0 (by decide), z17 1 (by decide), z17 2 (by decide), z17 3 (by decide), z17 4 (by decide), z17 5 (by decide)]
      generalize bt (hl 14 0) σ = a0
      generalize bt (hl 14 1) σ = a1
      generalize bt (hl 15 0) σ = b0
      generalize bt (hl 15 1) σ = b1
      revert a0 a1 b0 b1
      decide +kernel
    · simp (decide := true) only [opM, ↓reduceIte]
      simp [u2_ap, cpL_ap, va_cpy, bt_xor, bt_and, bt_or, bt_0, bt_m1 hσ, bt_cm hσ, lvb, z14 2 (by decide) (by decide), z14 3 (by decide) (by decide), z14 4 (by decide) (by decide), z14 5 (by decide) (by decide), z15 2 (by decide) (by decide), z15 3 (by decide) (by decide), z15 4 (by decide) (by decide), z15 5 (by decide) (by decide), z17 0 (by decide), z17 1 (by decide), z17 2 (by decide), z17 3 (by decide), z17 4 (by decide), z17 5 (by decide)]
      generalize bt (hl 14 0) σ = a0
      generalize bt (hl 14 1) σ = a1
      generalize bt (hl 15 0) σ = b0
      generalize bt (hl 15 1) σ = b1
      revert a0 a1 b0 b1
      decide +kernel
theorem jn_10_2_2_2 (hi : HI) (hl : HL) (Φ : HI → HL → Prop) (eW eb el eu ez : Int32) (h3 : hi 10 3 = 10) (h6 : hi 13 6 = 2) (h7 : hi 13 7 = 2) (h8 : hi 13 8 = 2) (z14 : ∀ j, 2 ≤ j → j < 6 → hl 14 j = 0) (z15 : ∀ j, 2 ≤ j → j < 6 → hl 15 j = 0) (z17 : ∀ j, j < 6 → hl 17 j = 0)
    (h : ∀ hl', (∀ c, (c < 14 ∨ 19 < c) → hl' c = hl c) → (∀ σ, σ < 64 → ∀ j, j < 2 → bt (hl' 17 j) σ = (opM 10 (nI 2) eW eb el eu (nI (lvb (fun j => bt (hl 14 j) σ) 2)) (nI (lvb (fun j => bt (hl 15 j) σ) 2)) ez).toNatClampNeg.testBit j) → Φ hi hl') : wpG_join hi hl Φ := by
  have hv : vp_in (10 : Int32) 31 := vp31 10 (by decide)
  have e : swC (10 : Int32).toNatClampNeg = 25 := by decide
  have e2 : swC 10 = 25 := by decide
  unfold wpG_join wbG_join_0
  rw [h3, e]
  simp (decide := true) only [false_implies, true_implies, and_true, true_and, not_true, not_false_eq_true, hv]
  unfold wpG_reckon wbG_reckon_0
  rw [e]
  simp (decide := true) only [false_implies, true_implies, and_true, true_and, not_true, not_false_eq_true, hv]
  unfold wpG_addUp wbG_addUp_0
  refine ⟨3, ?_⟩
  simp [wbG_addUp_6, wpG_carryOf, wbG_carryOf_0, h6, h7, h8, u2_ap, vp_in]
  refine h _ (fun c hc => ?_) (fun σ hσ j hj => ?_)
  · funext b
    simp only [u2_ap, cpL_ap]
    repeat rw [if_neg (by omega)]
  · have hc : j = 0 ∨ j = 1 := by omega
    rcases hc with rfl | rfl
    · simp (decide := true) only [opM, ↓reduceIte]
      simp [u2_ap, cpL_ap, va_cpy, bt_xor, bt_and, bt_or, bt_0, bt_m1 hσ, bt_cm hσ, lvb, z14 2 (by decide) (by decide), z14 3 (by decide) (by decide), z14 4 (by decide) (by decide), z14 5 (by decide) (by decide), z15 2 (by decide) (by decide), z15 3 (by decide) (by decide), z15 4 (by decide) (by decide), z15 5 (by decide) (by decide), z17 0 (by decide), z17 1 (by decide), z17 2 (by decide), z17 3 (by decide), z17 4 (by decide), z17 5 (by decide)]
      generalize bt (hl 14 0) σ = a0
      generalize bt (hl 14 1) σ = a1
      generalize bt (hl 15 0) σ = b0
      generalize bt (hl 15 1) σ = b1
      revert a0 a1 b0 b1
      decide +kernel
    · simp (decide := true) only [opM, ↓reduceIte]
      simp [u2_ap, cpL_ap, va_cpy, bt_xor, bt_and, bt_or, bt_0, bt_m1 hσ, bt_cm hσ, lvb, z14 2 (by decide) (by decide), z14 3 (by decide) (by decide), z14 4 (by decide) (by decide), z14 5 (by decide) (by decide), z15 2 (by decide) (by decide), z15 3 (by decide) (by decide), z15 4 (by decide) (by decide), z15 5 (by decide) (by decide), z17 0 (by decide), z17 1 (by decide), z17 2 (by decide), z17 3 (by decide), z17 4 (by decide), z17 5 (by decide)]
      generalize bt (hl 14 0) σ = a0
      generalize bt (hl 14 1) σ = a1
      generalize bt (hl 15 0) σ = b0
      generalize bt (hl 15 1) σ = b1
      revert a0 a1 b0 b1
      decide +kernel
theorem jn_11_2_2_2 (hi : HI) (hl : HL) (Φ : HI → HL → Prop) (eW eb el eu ez : Int32) (h3 : hi 10 3 = 11) (h6 : hi 13 6 = 2) (h7 : hi 13 7 = 2) (h8 : hi 13 8 = 2) (z14 : ∀ j, 2 ≤ j → j < 6 → hl 14 j = 0) (z15 : ∀ j, 2 ≤ j → j < 6 → hl 15 j = 0) (z17 : ∀ j, j < 6 → hl 17 j = 0)
    (h : ∀ hl', (∀ c, (c < 14 ∨ 19 < c) → hl' c = hl c) → (∀ σ, σ < 64 → ∀ j, j < 2 → bt (hl' 17 j) σ = (opM 11 (nI 2) eW eb el eu (nI (lvb (fun j => bt (hl 14 j) σ) 2)) (nI (lvb (fun j => bt (hl 15 j) σ) 2)) ez).toNatClampNeg.testBit j) → Φ hi hl') : wpG_join hi hl Φ := by
  have hv : vp_in (11 : Int32) 31 := vp31 11 (by decide)
  have e : swC (11 : Int32).toNatClampNeg = 26 := by decide
  have e2 : swC 11 = 26 := by decide
  unfold wpG_join wbG_join_0
  rw [h3, e]
  simp (decide := true) only [false_implies, true_implies, and_true, true_and, not_true, not_false_eq_true, hv]
  unfold wpG_reckon wbG_reckon_0
  rw [e]
  simp (decide := true) only [false_implies, true_implies, and_true, true_and, not_true, not_false_eq_true, hv]
  unfold wpG_addUp wbG_addUp_0
  refine ⟨3, ?_⟩
  simp [wbG_addUp_6, wpG_carryOf, wbG_carryOf_0, h6, h7, h8, u2_ap, vp_in]
  refine h _ (fun c hc => ?_) (fun σ hσ j hj => ?_)
  · funext b
    simp only [u2_ap, cpL_ap]
    repeat rw [if_neg (by omega)]
  · have hc : j = 0 ∨ j = 1 := by omega
    rcases hc with rfl | rfl
    · simp (decide := true) only [opM, ↓reduceIte]
      simp [u2_ap, cpL_ap, va_cpy, bt_xor, bt_and, bt_or, bt_0, bt_m1 hσ, bt_cm hσ, lvb, z14 2 (by decide) (by decide), z14 3 (by decide) (by decide), z14 4 (by decide) (by decide), z14 5 (by decide) (by decide), z15 2 (by decide) (by decide), z15 3 (by decide) (by decide), z15 4 (by decide) (by decide), z15 5 (by decide) (by decide), z17 0 (by decide), z17 1 (by decide), z17 2 (by decide), z17 3 (by decide), z17 4 (by decide), z17 5 (by decide)]
      generalize bt (hl 14 0) σ = a0
      generalize bt (hl 14 1) σ = a1
      generalize bt (hl 15 0) σ = b0
      generalize bt (hl 15 1) σ = b1
      revert a0 a1 b0 b1
      decide +kernel
    · simp (decide := true) only [opM, ↓reduceIte]
      simp [u2_ap, cpL_ap, va_cpy, bt_xor, bt_and, bt_or, bt_0, bt_m1 hσ, bt_cm hσ, lvb, z14 2 (by decide) (by decide), z14 3 (by decide) (by decide), z14 4 (by decide) (by decide), z14 5 (by decide) (by decide), z15 2 (by decide) (by decide), z15 3 (by decide) (by decide), z15 4 (by decide) (by decide), z15 5 (by decide) (by decide), z17 0 (by decide), z17 1 (by decide), z17 2 (by decide), z17 3 (by decide), z17 4 (by decide), z17 5 (by decide)]
      generalize bt (hl 14 0) σ = a0
      generalize bt (hl 14 1) σ = a1
      generalize bt (hl 15 0) σ = b0
      generalize bt (hl 15 1) σ = b1
      revert a0 a1 b0 b1
      decide +kernel
theorem jn_4_3_3_0 (hi : HI) (hl : HL) (Φ : HI → HL → Prop) (eW eb el eu ey ez : Int32) (h3 : hi 10 3 = 4) (h6 : hi 13 6 = 3) (h7 : hi 13 7 = 3) (h8 : hi 13 8 = 0) (z14 : ∀ j, 3 ≤ j → j < 6 → hl 14 j = 0) (z15 : ∀ j, 0 ≤ j → j < 6 → hl 15 j = 0) (z17 : ∀ j, j < 6 → hl 17 j = 0)
    (h : ∀ hl', (∀ c, (c < 14 ∨ 19 < c) → hl' c = hl c) → (∀ σ, σ < 64 → ∀ j, j < 3 → bt (hl' 17 j) σ = (opM 4 (nI 3) eW eb el eu (nI (lvb (fun j => bt (hl 14 j) σ) 3)) ey ez).toNatClampNeg.testBit j) → Φ hi hl') : wpG_join hi hl Φ := by
  have hv : vp_in (4 : Int32) 31 := vp31 4 (by decide)
  have e : swC (4 : Int32).toNatClampNeg = 10 := by decide
  have e2 : swC 4 = 10 := by decide
  unfold wpG_join wbG_join_0
  rw [h3, e]
  simp (decide := true) only [false_implies, true_implies, and_true, true_and, not_true, not_false_eq_true, hv]
  unfold wpG_joinByBits wbG_joinByBits_0
  refine ⟨4, ?_⟩
  simp [wbG_joinByBits_2, wpG_joinBit, wbG_joinBit_0, wpG_choose, wbG_choose_0, hv, e2, h6, h7, h8, u2_ap, vp_in]
  refine h _ (fun c hc => ?_) (fun σ hσ j hj => ?_)
  · funext b
    simp only [u2_ap, cpL_ap]
    repeat rw [if_neg (by omega)]
  · have hc : j = 0 ∨ j = 1 ∨ j = 2 := by omega
    rcases hc with rfl | rfl | rfl
    · simp (decide := true) only [opM, ↓reduceIte]
      simp [u2_ap, cpL_ap, va_cpy, bt_xor, bt_and, bt_or, bt_0, bt_m1 hσ, bt_cm hσ, lvb, z14 3 (by decide) (by decide), z14 4 (by decide) (by decide), z14 5 (by decide) (by decide), z15 0 (by decide) (by decide), z15 1 (by decide) (by decide), z15 2 (by decide) (by decide), z15 3 (by decide) (by decide), z15 4 (by decide) (by decide), z15 5 (by decide) (by decide), z17 0 (by decide), z17 1 (by decide), z17 2 (by decide), z17 3 (by decide), z17 4 (by decide), z17 5 (by decide)]
      generalize bt (hl 14 0) σ = a0
      generalize bt (hl 14 1) σ = a1
      generalize bt (hl 14 2) σ = a2
      revert a0 a1 a2
      decide +kernel
    · simp (decide := true) only [opM, ↓reduceIte]
      simp [u2_ap, cpL_ap, va_cpy, bt_xor, bt_and, bt_or, bt_0, bt_m1 hσ, bt_cm hσ, lvb, z14 3 (by decide) (by decide), z14 4 (by decide) (by decide), z14 5 (by decide) (by decide), z15 0 (by decide) (by decide), z15 1 (by decide) (by decide), z15 2 (by decide) (by decide), z15 3 (by decide) (by decide), z15 4 (by decide) (by decide), z15 5 (by decide) (by decide), z17 0 (by decide), z17 1 (by decide), z17 2 (by decide), z17 3 (by decide), z17 4 (by decide), z17 5 (by decide)]
      generalize bt (hl 14 0) σ = a0
      generalize bt (hl 14 1) σ = a1
      generalize bt (hl 14 2) σ = a2
      revert a0 a1 a2
      decide +kernel
    · simp (decide := true) only [opM, ↓reduceIte]
      simp [u2_ap, cpL_ap, va_cpy, bt_xor, bt_and, bt_or, bt_0, bt_m1 hσ, bt_cm hσ, lvb, z14 3 (by decide) (by decide), z14 4 (by decide) (by decide), z14 5 (by decide) (by decide), z15 0 (by decide) (by decide), z15 1 (by decide) (by decide), z15 2 (by decide) (by decide), z15 3 (by decide) (by decide), z15 4 (by decide) (by decide), z15 5 (by decide) (by decide), z17 0 (by decide), z17 1 (by decide), z17 2 (by decide), z17 3 (by decide), z17 4 (by decide), z17 5 (by decide)]
      generalize bt (hl 14 0) σ = a0
      generalize bt (hl 14 1) σ = a1
      generalize bt (hl 14 2) σ = a2
      revert a0 a1 a2
      decide +kernel
theorem jn_5_3_3_0 (hi : HI) (hl : HL) (Φ : HI → HL → Prop) (eW eb el eu ey ez : Int32) (h3 : hi 10 3 = 5) (h6 : hi 13 6 = 3) (h7 : hi 13 7 = 3) (h8 : hi 13 8 = 0) (z14 : ∀ j, 3 ≤ j → j < 6 → hl 14 j = 0) (z15 : ∀ j, 0 ≤ j → j < 6 → hl 15 j = 0) (z17 : ∀ j, j < 6 → hl 17 j = 0)
    (h : ∀ hl', (∀ c, (c < 14 ∨ 19 < c) → hl' c = hl c) → (∀ σ, σ < 64 → ∀ j, j < 3 → bt (hl' 17 j) σ = (opM 5 (nI 3) eW eb el eu (nI (lvb (fun j => bt (hl 14 j) σ) 3)) ey ez).toNatClampNeg.testBit j) → Φ hi hl') : wpG_join hi hl Φ := by
  have hv : vp_in (5 : Int32) 31 := vp31 5 (by decide)
  have e : swC (5 : Int32).toNatClampNeg = 24 := by decide
  have e2 : swC 5 = 24 := by decide
  unfold wpG_join wbG_join_0
  rw [h3, e]
  simp (decide := true) only [false_implies, true_implies, and_true, true_and, not_true, not_false_eq_true, hv]
  unfold wpG_reckon wbG_reckon_0
  rw [e]
  simp (decide := true) only [false_implies, true_implies, and_true, true_and, not_true, not_false_eq_true, hv]
  unfold wpG_addUp wbG_addUp_0
  refine ⟨4, ?_⟩
  simp [wbG_addUp_6, wpG_carryOf, wbG_carryOf_0, h6, h7, h8, u2_ap, vp_in]
  refine h _ (fun c hc => ?_) (fun σ hσ j hj => ?_)
  · funext b
    simp only [u2_ap, cpL_ap]
    repeat rw [if_neg (by omega)]
  · have hc : j = 0 ∨ j = 1 ∨ j = 2 := by omega
    rcases hc with rfl | rfl | rfl
    · simp (decide := true) only [opM, ↓reduceIte]
      simp [u2_ap, cpL_ap, va_cpy, bt_xor, bt_and, bt_or, bt_0, bt_m1 hσ, bt_cm hσ, lvb, z14 3 (by decide) (by decide), z14 4 (by decide) (by decide), z14 5 (by decide) (by decide), z15 0 (by decide) (by decide), z15 1 (by decide) (by decide), z15 2 (by decide) (by decide), z15 3 (by decide) (by decide), z15 4 (by decide) (by decide), z15 5 (by decide) (by decide), z17 0 (by decide), z17 1 (by decide), z17 2 (by decide), z17 3 (by decide), z17 4 (by decide), z17 5 (by decide)]
      generalize bt (hl 14 0) σ = a0
      generalize bt (hl 14 1) σ = a1
      generalize bt (hl 14 2) σ = a2
      revert a0 a1 a2
      decide +kernel
    · simp (decide := true) only [opM, ↓reduceIte]
      simp [u2_ap, cpL_ap, va_cpy, bt_xor, bt_and, bt_or, bt_0, bt_m1 hσ, bt_cm hσ, lvb, z14 3 (by decide) (by decide), z14 4 (by decide) (by decide), z14 5 (by decide) (by decide), z15 0 (by decide) (by decide), z15 1 (by decide) (by decide), z15 2 (by decide) (by decide), z15 3 (by decide) (by decide), z15 4 (by decide) (by decide), z15 5 (by decide) (by decide), z17 0 (by decide), z17 1 (by decide), z17 2 (by decide), z17 3 (by decide), z17 4 (by decide), z17 5 (by decide)]
      generalize bt (hl 14 0) σ = a0
      generalize bt (hl 14 1) σ = a1
      generalize bt (hl 14 2) σ = a2
      revert a0 a1 a2
      decide +kernel
    · simp (decide := true) only [opM, ↓reduceIte]
      simp [u2_ap, cpL_ap, va_cpy, bt_xor, bt_and, bt_or, bt_0, bt_m1 hσ, bt_cm hσ, lvb, z14 3 (by decide) (by decide), z14 4 (by decide) (by decide), z14 5 (by decide) (by decide), z15 0 (by decide) (by decide), z15 1 (by decide) (by decide), z15 2 (by decide) (by decide), z15 3 (by decide) (by decide), z15 4 (by decide) (by decide), z15 5 (by decide) (by decide), z17 0 (by decide), z17 1 (by decide), z17 2 (by decide), z17 3 (by decide), z17 4 (by decide), z17 5 (by decide)]
      generalize bt (hl 14 0) σ = a0
      generalize bt (hl 14 1) σ = a1
      generalize bt (hl 14 2) σ = a2
      revert a0 a1 a2
      decide +kernel
theorem jn_7_3_3_3 (hi : HI) (hl : HL) (Φ : HI → HL → Prop) (ew eW eb el eu ez : Int32) (h3 : hi 10 3 = 7) (h6 : hi 13 6 = 3) (h7 : hi 13 7 = 3) (h8 : hi 13 8 = 3) (z14 : ∀ j, 3 ≤ j → j < 6 → hl 14 j = 0) (z15 : ∀ j, 3 ≤ j → j < 6 → hl 15 j = 0) (z17 : ∀ j, j < 6 → hl 17 j = 0)
    (h : ∀ hl', (∀ c, (c < 14 ∨ 19 < c) → hl' c = hl c) → (∀ σ, σ < 64 → ∀ j, j < 3 → bt (hl' 17 j) σ = (opM 7 ew eW eb el eu (nI (lvb (fun j => bt (hl 14 j) σ) 3)) (nI (lvb (fun j => bt (hl 15 j) σ) 3)) ez).toNatClampNeg.testBit j) → Φ hi hl') : wpG_join hi hl Φ := by
  have hv : vp_in (7 : Int32) 31 := vp31 7 (by decide)
  have e : swC (7 : Int32).toNatClampNeg = 11 := by decide
  have e2 : swC 7 = 11 := by decide
  unfold wpG_join wbG_join_0
  rw [h3, e]
  simp (decide := true) only [false_implies, true_implies, and_true, true_and, not_true, not_false_eq_true, hv]
  unfold wpG_joinByBits wbG_joinByBits_0
  refine ⟨4, ?_⟩
  simp [wbG_joinByBits_2, wpG_joinBit, wbG_joinBit_0, wpG_choose, wbG_choose_0, hv, e2, h6, h7, h8, u2_ap, vp_in]
  refine h _ (fun c hc => ?_) (fun σ hσ j hj => ?_)
  · funext b
    simp only [u2_ap, cpL_ap]
    repeat rw [if_neg (by omega)]
  · have hc : j = 0 ∨ j = 1 ∨ j = 2 := by omega
    rcases hc with rfl | rfl | rfl
    · simp (decide := true) only [opM, ↓reduceIte]
      simp [u2_ap, cpL_ap, va_cpy, bt_xor, bt_and, bt_or, bt_0, bt_m1 hσ, bt_cm hσ, lvb, z14 3 (by decide) (by decide), z14 4 (by decide) (by decide), z14 5 (by decide) (by decide), z15 3 (by decide) (by decide), z15 4 (by decide) (by decide), z15 5 (by decide) (by decide), z17 0 (by decide), z17 1 (by decide), z17 2 (by decide), z17 3 (by decide), z17 4 (by decide), z17 5 (by decide)]
      generalize bt (hl 14 0) σ = a0
      generalize bt (hl 14 1) σ = a1
      generalize bt (hl 14 2) σ = a2
      generalize bt (hl 15 0) σ = b0
      generalize bt (hl 15 1) σ = b1
      generalize bt (hl 15 2) σ = b2
      revert a0 a1 a2 b0 b1 b2
      decide +kernel
    · simp (decide := true) only [opM, ↓reduceIte]
      simp [u2_ap, cpL_ap, va_cpy, bt_xor, bt_and, bt_or, bt_0, bt_m1 hσ, bt_cm hσ, lvb, z14 3 (by decide) (by decide), z14 4 (by decide) (by decide), z14 5 (by decide) (by decide), z15 3 (by decide) (by decide), z15 4 (by decide) (by decide), z15 5 (by decide) (by decide), z17 0 (by decide), z17 1 (by decide), z17 2 (by decide), z17 3 (by decide), z17 4 (by decide), z17 5 (by decide)]
      generalize bt (hl 14 0) σ = a0
      generalize bt (hl 14 1) σ = a1
      generalize bt (hl 14 2) σ = a2
      generalize bt (hl 15 0) σ = b0
      generalize bt (hl 15 1) σ = b1
      generalize bt (hl 15 2) σ = b2
      revert a0 a1 a2 b0 b1 b2
      decide +kernel
    · simp (decide := true) only [opM, ↓reduceIte]
      simp [u2_ap, cpL_ap, va_cpy, bt_xor, bt_and, bt_or, bt_0, bt_m1 hσ, bt_cm hσ, lvb, z14 3 (by decide) (by decide), z14 4 (by decide) (by decide), z14 5 (by decide) (by decide), z15 3 (by decide) (by decide), z15 4 (by decide) (by decide), z15 5 (by decide) (by decide), z17 0 (by decide), z17 1 (by decide), z17 2 (by decide), z17 3 (by decide), z17 4 (by decide), z17 5 (by decide)]
      generalize bt (hl 14 0) σ = a0
      generalize bt (hl 14 1) σ = a1
      generalize bt (hl 14 2) σ = a2
      generalize bt (hl 15 0) σ = b0
      generalize bt (hl 15 1) σ = b1
      generalize bt (hl 15 2) σ = b2
      revert a0 a1 a2 b0 b1 b2
      decide +kernel
theorem jn_8_3_3_3 (hi : HI) (hl : HL) (Φ : HI → HL → Prop) (ew eW eb el eu ez : Int32) (h3 : hi 10 3 = 8) (h6 : hi 13 6 = 3) (h7 : hi 13 7 = 3) (h8 : hi 13 8 = 3) (z14 : ∀ j, 3 ≤ j → j < 6 → hl 14 j = 0) (z15 : ∀ j, 3 ≤ j → j < 6 → hl 15 j = 0) (z17 : ∀ j, j < 6 → hl 17 j = 0)
    (h : ∀ hl', (∀ c, (c < 14 ∨ 19 < c) → hl' c = hl c) → (∀ σ, σ < 64 → ∀ j, j < 3 → bt (hl' 17 j) σ = (opM 8 ew eW eb el eu (nI (lvb (fun j => bt (hl 14 j) σ) 3)) (nI (lvb (fun j => bt (hl 15 j) σ) 3)) ez).toNatClampNeg.testBit j) → Φ hi hl') : wpG_join hi hl Φ := by
  have hv : vp_in (8 : Int32) 31 := vp31 8 (by decide)
  have e : swC (8 : Int32).toNatClampNeg = 12 := by decide
  have e2 : swC 8 = 12 := by decide
  unfold wpG_join wbG_join_0
  rw [h3, e]
  simp (decide := true) only [false_implies, true_implies, and_true, true_and, not_true, not_false_eq_true, hv]
  unfold wpG_joinByBits wbG_joinByBits_0
  refine ⟨4, ?_⟩
  simp [wbG_joinByBits_2, wpG_joinBit, wbG_joinBit_0, wpG_choose, wbG_choose_0, hv, e2, h6, h7, h8, u2_ap, vp_in]
  refine h _ (fun c hc => ?_) (fun σ hσ j hj => ?_)
  · funext b
    simp only [u2_ap, cpL_ap]
    repeat rw [if_neg (by omega)]
  · have hc : j = 0 ∨ j = 1 ∨ j = 2 := by omega
    rcases hc with rfl | rfl | rfl
    · simp (decide := true) only [opM, ↓reduceIte]
      simp [u2_ap, cpL_ap, va_cpy, bt_xor, bt_and, bt_or, bt_0, bt_m1 hσ, bt_cm hσ, lvb, z14 3 (by decide) (by decide), z14 4 (by decide) (by decide), z14 5 (by decide) (by decide), z15 3 (by decide) (by decide), z15 4 (by decide) (by decide), z15 5 (by decide) (by decide), z17 0 (by decide), z17 1 (by decide), z17 2 (by decide), z17 3 (by decide), z17 4 (by decide), z17 5 (by decide)]
      generalize bt (hl 14 0) σ = a0
      generalize bt (hl 14 1) σ = a1
      generalize bt (hl 14 2) σ = a2
      generalize bt (hl 15 0) σ = b0
      generalize bt (hl 15 1) σ = b1
      generalize bt (hl 15 2) σ = b2
      revert a0 a1 a2 b0 b1 b2
      decide +kernel
    · simp (decide := true) only [opM, ↓reduceIte]
      simp [u2_ap, cpL_ap, va_cpy, bt_xor, bt_and, bt_or, bt_0, bt_m1 hσ, bt_cm hσ, lvb, z14 3 (by decide) (by decide), z14 4 (by decide) (by decide), z14 5 (by decide) (by decide), z15 3 (by decide) (by decide), z15 4 (by decide) (by decide), z15 5 (by decide) (by decide), z17 0 (by decide), z17 1 (by decide), z17 2 (by decide), z17 3 (by decide), z17 4 (by decide), z17 5 (by decide)]
      generalize bt (hl 14 0) σ = a0
      generalize bt (hl 14 1) σ = a1
      generalize bt (hl 14 2) σ = a2
      generalize bt (hl 15 0) σ = b0
      generalize bt (hl 15 1) σ = b1
      generalize bt (hl 15 2) σ = b2
      revert a0 a1 a2 b0 b1 b2
      decide +kernel
    · simp (decide := true) only [opM, ↓reduceIte]
      simp [u2_ap, cpL_ap, va_cpy, bt_xor, bt_and, bt_or, bt_0, bt_m1 hσ, bt_cm hσ, lvb, z14 3 (by decide) (by decide), z14 4 (by decide) (by decide), z14 5 (by decide) (by decide), z15 3 (by decide) (by decide), z15 4 (by decide) (by decide), z15 5 (by decide) (by decide), z17 0 (by decide), z17 1 (by decide), z17 2 (by decide), z17 3 (by decide), z17 4 (by decide), z17 5 (by decide)]
      generalize bt (hl 14 0) σ = a0
      generalize bt (hl 14 1) σ = a1
      generalize bt (hl 14 2) σ = a2
      generalize bt (hl 15 0) σ = b0
      generalize bt (hl 15 1) σ = b1
      generalize bt (hl 15 2) σ = b2
      revert a0 a1 a2 b0 b1 b2
      decide +kernel
theorem jn_9_3_3_3 (hi : HI) (hl : HL) (Φ : HI → HL → Prop) (ew eW eb el eu ez : Int32) (h3 : hi 10 3 = 9) (h6 : hi 13 6 = 3) (h7 : hi 13 7 = 3) (h8 : hi 13 8 = 3) (z14 : ∀ j, 3 ≤ j → j < 6 → hl 14 j = 0) (z15 : ∀ j, 3 ≤ j → j < 6 → hl 15 j = 0) (z17 : ∀ j, j < 6 → hl 17 j = 0)
    (h : ∀ hl', (∀ c, (c < 14 ∨ 19 < c) → hl' c = hl c) → (∀ σ, σ < 64 → ∀ j, j < 3 → bt (hl' 17 j) σ = (opM 9 ew eW eb el eu (nI (lvb (fun j => bt (hl 14 j) σ) 3)) (nI (lvb (fun j => bt (hl 15 j) σ) 3)) ez).toNatClampNeg.testBit j) → Φ hi hl') : wpG_join hi hl Φ := by
  have hv : vp_in (9 : Int32) 31 := vp31 9 (by decide)
  have e : swC (9 : Int32).toNatClampNeg = 13 := by decide
  have e2 : swC 9 = 13 := by decide
  unfold wpG_join wbG_join_0
  rw [h3, e]
  simp (decide := true) only [false_implies, true_implies, and_true, true_and, not_true, not_false_eq_true, hv]
  unfold wpG_joinByBits wbG_joinByBits_0
  refine ⟨4, ?_⟩
  simp [wbG_joinByBits_2, wpG_joinBit, wbG_joinBit_0, wpG_choose, wbG_choose_0, hv, e2, h6, h7, h8, u2_ap, vp_in]
  refine h _ (fun c hc => ?_) (fun σ hσ j hj => ?_)
  · funext b
    simp only [u2_ap, cpL_ap]
    repeat rw [if_neg (by omega)]
  · have hc : j = 0 ∨ j = 1 ∨ j = 2 := by omega
    rcases hc with rfl | rfl | rfl
    · simp (decide := true) only [opM, ↓reduceIte]
      simp [u2_ap, cpL_ap, va_cpy, bt_xor, bt_and, bt_or, bt_0, bt_m1 hσ, bt_cm hσ, lvb, z14 3 (by decide) (by decide), z14 4 (by decide) (by decide), z14 5 (by decide) (by decide), z15 3 (by decide) (by decide), z15 4 (by decide) (by decide), z15 5 (by decide) (by decide), z17 0 (by decide), z17 1 (by decide), z17 2 (by decide), z17 3 (by decide), z17 4 (by decide), z17 5 (by decide)]
      generalize bt (hl 14 0) σ = a0
      generalize bt (hl 14 1) σ = a1
      generalize bt (hl 14 2) σ = a2
      generalize bt (hl 15 0) σ = b0
      generalize bt (hl 15 1) σ = b1
      generalize bt (hl 15 2) σ = b2
      revert a0 a1 a2 b0 b1 b2
      decide +kernel
    · simp (decide := true) only [opM, ↓reduceIte]
      simp [u2_ap, cpL_ap, va_cpy, bt_xor, bt_and, bt_or, bt_0, bt_m1 hσ, bt_cm hσ, lvb, z14 3 (by decide) (by decide), z14 4 (by decide) (by decide), z14 5 (by decide) (by decide), z15 3 (by decide) (by decide), z15 4 (by decide) (by decide), z15 5 (by decide) (by decide), z17 0 (by decide), z17 1 (by decide), z17 2 (by decide), z17 3 (by decide), z17 4 (by decide), z17 5 (by decide)]
      generalize bt (hl 14 0) σ = a0
      generalize bt (hl 14 1) σ = a1
      generalize bt (hl 14 2) σ = a2
      generalize bt (hl 15 0) σ = b0
      generalize bt (hl 15 1) σ = b1
      generalize bt (hl 15 2) σ = b2
      revert a0 a1 a2 b0 b1 b2
      decide +kernel
    · simp (decide := true) only [opM, ↓reduceIte]
      simp [u2_ap, cpL_ap, va_cpy, bt_xor, bt_and, bt_or, bt_0, bt_m1 hσ, bt_cm hσ, lvb, z14 3 (by decide) (by decide), z14 4 (by decide) (by decide), z14 5 (by decide) (by decide), z15 3 (by decide) (by decide), z15 4 (by decide) (by decide), z15 5 (by decide) (by decide), z17 0 (by decide), z17 1 (by decide), z17 2 (by decide), z17 3 (by decide), z17 4 (by decide), z17 5 (by decide)]
      generalize bt (hl 14 0) σ = a0
      generalize bt (hl 14 1) σ = a1
      generalize bt (hl 14 2) σ = a2
      generalize bt (hl 15 0) σ = b0
      generalize bt (hl 15 1) σ = b1
      generalize bt (hl 15 2) σ = b2
      revert a0 a1 a2 b0 b1 b2
      decide +kernel
theorem jn_10_3_3_3 (hi : HI) (hl : HL) (Φ : HI → HL → Prop) (eW eb el eu ez : Int32) (h3 : hi 10 3 = 10) (h6 : hi 13 6 = 3) (h7 : hi 13 7 = 3) (h8 : hi 13 8 = 3) (z14 : ∀ j, 3 ≤ j → j < 6 → hl 14 j = 0) (z15 : ∀ j, 3 ≤ j → j < 6 → hl 15 j = 0) (z17 : ∀ j, j < 6 → hl 17 j = 0)
    (h : ∀ hl', (∀ c, (c < 14 ∨ 19 < c) → hl' c = hl c) → (∀ σ, σ < 64 → ∀ j, j < 3 → bt (hl' 17 j) σ = (opM 10 (nI 3) eW eb el eu (nI (lvb (fun j => bt (hl 14 j) σ) 3)) (nI (lvb (fun j => bt (hl 15 j) σ) 3)) ez).toNatClampNeg.testBit j) → Φ hi hl') : wpG_join hi hl Φ := by
  have hv : vp_in (10 : Int32) 31 := vp31 10 (by decide)
  have e : swC (10 : Int32).toNatClampNeg = 25 := by decide
  have e2 : swC 10 = 25 := by decide
  unfold wpG_join wbG_join_0
  rw [h3, e]
  simp (decide := true) only [false_implies, true_implies, and_true, true_and, not_true, not_false_eq_true, hv]
  unfold wpG_reckon wbG_reckon_0
  rw [e]
  simp (decide := true) only [false_implies, true_implies, and_true, true_and, not_true, not_false_eq_true, hv]
  unfold wpG_addUp wbG_addUp_0
  refine ⟨4, ?_⟩
  simp [wbG_addUp_6, wpG_carryOf, wbG_carryOf_0, h6, h7, h8, u2_ap, vp_in]
  refine h _ (fun c hc => ?_) (fun σ hσ j hj => ?_)
  · funext b
    simp only [u2_ap, cpL_ap]
    repeat rw [if_neg (by omega)]
  · have hc : j = 0 ∨ j = 1 ∨ j = 2 := by omega
    rcases hc with rfl | rfl | rfl
    · simp (decide := true) only [opM, ↓reduceIte]
      simp [u2_ap, cpL_ap, va_cpy, bt_xor, bt_and, bt_or, bt_0, bt_m1 hσ, bt_cm hσ, lvb, z14 3 (by decide) (by decide), z14 4 (by decide) (by decide), z14 5 (by decide) (by decide), z15 3 (by decide) (by decide), z15 4 (by decide) (by decide), z15 5 (by decide) (by decide), z17 0 (by decide), z17 1 (by decide), z17 2 (by decide), z17 3 (by decide), z17 4 (by decide), z17 5 (by decide)]
      generalize bt (hl 14 0) σ = a0
      generalize bt (hl 14 1) σ = a1
      generalize bt (hl 14 2) σ = a2
      generalize bt (hl 15 0) σ = b0
      generalize bt (hl 15 1) σ = b1
      generalize bt (hl 15 2) σ = b2
      revert a0 a1 a2 b0 b1 b2
      decide +kernel
    · simp (decide := true) only [opM, ↓reduceIte]
      simp [u2_ap, cpL_ap, va_cpy, bt_xor, bt_and, bt_or, bt_0, bt_m1 hσ, bt_cm hσ, lvb, z14 3 (by decide) (by decide), z14 4 (by decide) (by decide), z14 5 (by decide) (by decide), z15 3 (by decide) (by decide), z15 4 (by decide) (by decide), z15 5 (by decide) (by decide), z17 0 (by decide), z17 1 (by decide), z17 2 (by decide), z17 3 (by decide), z17 4 (by decide), z17 5 (by decide)]
      generalize bt (hl 14 0) σ = a0
      generalize bt (hl 14 1) σ = a1
      generalize bt (hl 14 2) σ = a2
      generalize bt (hl 15 0) σ = b0
      generalize bt (hl 15 1) σ = b1
      generalize bt (hl 15 2) σ = b2
      revert a0 a1 a2 b0 b1 b2
      decide +kernel
    · simp (decide := true) only [opM, ↓reduceIte]
      simp [u2_ap, cpL_ap, va_cpy, bt_xor, bt_and, bt_or, bt_0, bt_m1 hσ, bt_cm hσ, lvb, z14 3 (by decide) (by decide), z14 4 (by decide) (by decide), z14 5 (by decide) (by decide), z15 3 (by decide) (by decide), z15 4 (by decide) (by decide), z15 5 (by decide) (by decide), z17 0 (by decide), z17 1 (by decide), z17 2 (by decide), z17 3 (by decide), z17 4 (by decide), z17 5 (by decide)]
      generalize bt (hl 14 0) σ = a0
      generalize bt (hl 14 1) σ = a1
      generalize bt (hl 14 2) σ = a2
      generalize bt (hl 15 0) σ = b0
      generalize bt (hl 15 1) σ = b1
      generalize bt (hl 15 2) σ = b2
      revert a0 a1 a2 b0 b1 b2
      decide +kernel
theorem jn_11_3_3_3 (hi : HI) (hl : HL) (Φ : HI → HL → Prop) (eW eb el eu ez : Int32) (h3 : hi 10 3 = 11) (h6 : hi 13 6 = 3) (h7 : hi 13 7 = 3) (h8 : hi 13 8 = 3) (z14 : ∀ j, 3 ≤ j → j < 6 → hl 14 j = 0) (z15 : ∀ j, 3 ≤ j → j < 6 → hl 15 j = 0) (z17 : ∀ j, j < 6 → hl 17 j = 0)
    (h : ∀ hl', (∀ c, (c < 14 ∨ 19 < c) → hl' c = hl c) → (∀ σ, σ < 64 → ∀ j, j < 3 → bt (hl' 17 j) σ = (opM 11 (nI 3) eW eb el eu (nI (lvb (fun j => bt (hl 14 j) σ) 3)) (nI (lvb (fun j => bt (hl 15 j) σ) 3)) ez).toNatClampNeg.testBit j) → Φ hi hl') : wpG_join hi hl Φ := by
  have hv : vp_in (11 : Int32) 31 := vp31 11 (by decide)
  have e : swC (11 : Int32).toNatClampNeg = 26 := by decide
  have e2 : swC 11 = 26 := by decide
  unfold wpG_join wbG_join_0
  rw [h3, e]
  simp (decide := true) only [false_implies, true_implies, and_true, true_and, not_true, not_false_eq_true, hv]
  unfold wpG_reckon wbG_reckon_0
  rw [e]
  simp (decide := true) only [false_implies, true_implies, and_true, true_and, not_true, not_false_eq_true, hv]
  unfold wpG_addUp wbG_addUp_0
  refine ⟨4, ?_⟩
  simp [wbG_addUp_6, wpG_carryOf, wbG_carryOf_0, h6, h7, h8, u2_ap, vp_in]
  refine h _ (fun c hc => ?_) (fun σ hσ j hj => ?_)
  · funext b
    simp only [u2_ap, cpL_ap]
    repeat rw [if_neg (by omega)]
  · have hc : j = 0 ∨ j = 1 ∨ j = 2 := by omega
    rcases hc with rfl | rfl | rfl
    · simp (decide := true) only [opM, ↓reduceIte]
      simp [u2_ap, cpL_ap, va_cpy, bt_xor, bt_and, bt_or, bt_0, bt_m1 hσ, bt_cm hσ, lvb, z14 3 (by decide) (by decide), z14 4 (by decide) (by decide), z14 5 (by decide) (by decide), z15 3 (by decide) (by decide), z15 4 (by decide) (by decide), z15 5 (by decide) (by decide), z17 0 (by decide), z17 1 (by decide), z17 2 (by decide), z17 3 (by decide), z17 4 (by decide), z17 5 (by decide)]
      generalize bt (hl 14 0) σ = a0
      generalize bt (hl 14 1) σ = a1
      generalize bt (hl 14 2) σ = a2
      generalize bt (hl 15 0) σ = b0
      generalize bt (hl 15 1) σ = b1
      generalize bt (hl 15 2) σ = b2
      revert a0 a1 a2 b0 b1 b2
      decide +kernel
    · simp (decide := true) only [opM, ↓reduceIte]
      simp [u2_ap, cpL_ap, va_cpy, bt_xor, bt_and, bt_or, bt_0, bt_m1 hσ, bt_cm hσ, lvb, z14 3 (by decide) (by decide), z14 4 (by decide) (by decide), z14 5 (by decide) (by decide), z15 3 (by decide) (by decide), z15 4 (by decide) (by decide), z15 5 (by decide) (by decide), z17 0 (by decide), z17 1 (by decide), z17 2 (by decide), z17 3 (by decide), z17 4 (by decide), z17 5 (by decide)]
      generalize bt (hl 14 0) σ = a0
      generalize bt (hl 14 1) σ = a1
      generalize bt (hl 14 2) σ = a2
      generalize bt (hl 15 0) σ = b0
      generalize bt (hl 15 1) σ = b1
      generalize bt (hl 15 2) σ = b2
      revert a0 a1 a2 b0 b1 b2
      decide +kernel
    · simp (decide := true) only [opM, ↓reduceIte]
      simp [u2_ap, cpL_ap, va_cpy, bt_xor, bt_and, bt_or, bt_0, bt_m1 hσ, bt_cm hσ, lvb, z14 3 (by decide) (by decide), z14 4 (by decide) (by decide), z14 5 (by decide) (by decide), z15 3 (by decide) (by decide), z15 4 (by decide) (by decide), z15 5 (by decide) (by decide), z17 0 (by decide), z17 1 (by decide), z17 2 (by decide), z17 3 (by decide), z17 4 (by decide), z17 5 (by decide)]
      generalize bt (hl 14 0) σ = a0
      generalize bt (hl 14 1) σ = a1
      generalize bt (hl 14 2) σ = a2
      generalize bt (hl 15 0) σ = b0
      generalize bt (hl 15 1) σ = b1
      generalize bt (hl 15 2) σ = b2
      revert a0 a1 a2 b0 b1 b2
      decide +kernel
