/-! gates: what they give, kind by kind and width by width (printed by wip/whole/pure/gates.py) -/
theorem jn_24_1_1_1 (hi : HI) (hl : HL) (Φ : HI → HL → Prop) (ew eW eb el eu : Int32) (h3 : hi 10 3 = 24) (h6 : hi 13 6 = 1) (h7 : hi 13 7 = 1) (h8 : hi 13 8 = 1) (z14 : ∀ j, 1 ≤ j → j < 6 → hl 14 j = 0) (z15 : ∀ j, 1 ≤ j → j < 6 → hl 15 j = 0) (z17 : ∀ j, j < 6 → hl 17 j = 0)
    (h : ∀ hl', (∀ c, (c < 14 ∨ 19 < c) → hl' c = hl c) → (∀ σ, σ < 64 → ∀ j, j < 1 → bt (hl' 17 j) σ = (opM 24 ew eW eb el eu (nI (lvb (fun j => bt (hl 15 j) σ) 1)) (nI (lvb (fun j => bt (hl 16 j) σ) 1)) (nI (lvb (fun j => bt (hl 14 j) σ) 1))).toNatClampNeg.testBit j) → Φ hi hl') : wpG_join hi hl Φ := by
  have hv : vp_in (24 : Int32) 31 := vp31 24 (by decide)
  have e : swC (24 : Int32).toNatClampNeg = 14 := by decide
  have e2 : swC 24 = 14 := by decide
  unfold wpG_join wbG_join_0
  rw [h3, e]
  simp (decide := true) only [false_implies, true_implies, and_true, true_and, not_true, not_false_eq_true, hv]
  unfold wpG_joinByBits wbG_joinByBits_0
  refine ⟨2, ?_⟩
  simp [wbG_joinByBits_2, wpG_joinBit, wbG_joinBit_0, wpG_choose, wbG_choose_0, hv, e2, h6, h7, h8, u2_ap, vp_in]
  refine h _ (fun c hc => ?_) (fun σ hσ j hj => ?_)
  · funext b
    simp only [u2_ap, cpL_ap]
    repeat rw [if_neg (by omega)]
  · have hc : j = 0 := by omega
    subst hc
    · simp (decide := true) only [opM, ↓reduceIte]
      simp [u2_ap, cpL_ap, va_cpy, bt_xor, bt_and, bt_or, bt_0, bt_m1 hσ, bt_cm hσ, lvb, z14 1 (by decide) (by decide), z14 2 (by decide) (by decide), z14 3 (by decide) (by decide), z14 4 (by decide) (by decide), z14 5 (by decide) (by decide), z15 1 (by decide) (by decide), z15 2 (by decide) (by decide), z15 3 (by decide) (by decide), z15 4 (by decide) (by decide), z15 5 (by decide) (by decide), z17 0 (by decide), z17 1 (by decide), z17 2 (by decide), z17 3 (by decide), z17 4 (by decide), z17 5 (by decide)]
      generalize bt (hl 14 0) σ = a0
      generalize bt (hl 15 0) σ = b0
      generalize bt (hl 16 0) σ = c0
      revert a0 b0 c0
      decide +kernel
theorem jn_24_2_1_2 (hi : HI) (hl : HL) (Φ : HI → HL → Prop) (ew eW eb el eu : Int32) (h3 : hi 10 3 = 24) (h6 : hi 13 6 = 2) (h7 : hi 13 7 = 1) (h8 : hi 13 8 = 2) (z14 : ∀ j, 1 ≤ j → j < 6 → hl 14 j = 0) (z15 : ∀ j, 2 ≤ j → j < 6 → hl 15 j = 0) (z17 : ∀ j, j < 6 → hl 17 j = 0)
    (h : ∀ hl', (∀ c, (c < 14 ∨ 19 < c) → hl' c = hl c) → (∀ σ, σ < 64 → ∀ j, j < 2 → bt (hl' 17 j) σ = (opM 24 ew eW eb el eu (nI (lvb (fun j => bt (hl 15 j) σ) 2)) (nI (lvb (fun j => bt (hl 16 j) σ) 2)) (nI (lvb (fun j => bt (hl 14 j) σ) 1))).toNatClampNeg.testBit j) → Φ hi hl') : wpG_join hi hl Φ := by
  have hv : vp_in (24 : Int32) 31 := vp31 24 (by decide)
  have e : swC (24 : Int32).toNatClampNeg = 14 := by decide
  have e2 : swC 24 = 14 := by decide
  unfold wpG_join wbG_join_0
  rw [h3, e]
  simp (decide := true) only [false_implies, true_implies, and_true, true_and, not_true, not_false_eq_true, hv]
  unfold wpG_joinByBits wbG_joinByBits_0
  refine ⟨3, ?_⟩
  simp [wbG_joinByBits_2, wpG_joinBit, wbG_joinBit_0, wpG_choose, wbG_choose_0, hv, e2, h6, h7, h8, u2_ap, vp_in]
  refine h _ (fun c hc => ?_) (fun σ hσ j hj => ?_)
  · funext b
    simp only [u2_ap, cpL_ap]
    repeat rw [if_neg (by omega)]
  · have hc : j = 0 ∨ j = 1 := by omega
    rcases hc with rfl | rfl
    · simp (decide := true) only [opM, ↓reduceIte]
      simp [u2_ap, cpL_ap, va_cpy, bt_xor, bt_and, bt_or, bt_0, bt_m1 hσ, bt_cm hσ, lvb, z14 1 (by decide) (by decide), z14 2 (by decide) (by decide), z14 3 (by decide) (by decide), z14 4 (by decide) (by decide), z14 5 (by decide) (by decide), z15 2 (by decide) (by decide), z15 3 (by decide) (by decide), z15 4 (by decide) (by decide), z15 5 (by decide) (by decide), z17 0 (by decide), z17 1 (by decide), z17 2 (by decide), z17 3 (by decide), z17 4 (by decide), z17 5 (by decide)]
      generalize bt (hl 14 0) σ = a0
      generalize bt (hl 15 0) σ = b0
      generalize bt (hl 15 1) σ = b1
      generalize bt (hl 16 0) σ = c0
      generalize bt (hl 16 1) σ = c1
      revert a0 b0 b1 c0 c1
      decide +kernel
    · simp (decide := true) only [opM, ↓reduceIte]
      simp [u2_ap, cpL_ap, va_cpy, bt_xor, bt_and, bt_or, bt_0, bt_m1 hσ, bt_cm hσ, lvb, z14 1 (by decide) (by decide), z14 2 (by decide) (by decide), z14 3 (by decide) (by decide), z14 4 (by decide) (by decide), z14 5 (by decide) (by decide), z15 2 (by decide) (by decide), z15 3 (by decide) (by decide), z15 4 (by decide) (by decide), z15 5 (by decide) (by decide), z17 0 (by decide), z17 1 (by decide), z17 2 (by decide), z17 3 (by decide), z17 4 (by decide), z17 5 (by decide)]
      generalize bt (hl 14 0) σ = a0
      generalize bt (hl 15 0) σ = b0
      generalize bt (hl 15 1) σ = b1
      generalize bt (hl 16 0) σ = c0
      generalize bt (hl 16 1) σ = c1
      revert a0 b0 b1 c0 c1
      decide +kernel
theorem jn_24_3_1_3 (hi : HI) (hl : HL) (Φ : HI → HL → Prop) (ew eW eb el eu : Int32) (h3 : hi 10 3 = 24) (h6 : hi 13 6 = 3) (h7 : hi 13 7 = 1) (h8 : hi 13 8 = 3) (z14 : ∀ j, 1 ≤ j → j < 6 → hl 14 j = 0) (z15 : ∀ j, 3 ≤ j → j < 6 → hl 15 j = 0) (z17 : ∀ j, j < 6 → hl 17 j = 0)
    (h : ∀ hl', (∀ c, (c < 14 ∨ 19 < c) → hl' c = hl c) → (∀ σ, σ < 64 → ∀ j, j < 3 → bt (hl' 17 j) σ = (opM 24 ew eW eb el eu (nI (lvb (fun j => bt (hl 15 j) σ) 3)) (nI (lvb (fun j => bt (hl 16 j) σ) 3)) (nI (lvb (fun j => bt (hl 14 j) σ) 1))).toNatClampNeg.testBit j) → Φ hi hl') : wpG_join hi hl Φ := by
  have hv : vp_in (24 : Int32) 31 := vp31 24 (by decide)
  have e : swC (24 : Int32).toNatClampNeg = 14 := by decide
  have e2 : swC 24 = 14 := by decide
  unfold wpG_join wbG_join_0
  rw [h3, e]
  simp (decide := true) only [false_implies, true_implies, and_true, true_and, not_true, not_false_eq_true, hv]
  unfold wpG_joinByBits wbG_joinByBits_0
  refine ⟨4, ?_⟩
  simp [wbG_joinByBits_2, wpG_joinBit, wbG_joinBit_0, wpG_choose, wbG_choose_0, hv, e2, h6, h7, h8, u2_ap, vp_in]
  refine h _ (fun c hc => ?_) (fun σ hσ j hj => ?_)
  · funext b
    simp only [u2_ap, cpL_ap]
    repeat rw [if_neg (by omega)]
  · have hc : j = 0 ∨ j = 1 ∨ j = 2 := by omega
    rcases hc with rfl | rfl | rfl
    · simp (decide := true) only [opM, ↓reduceIte]
      simp [u2_ap, cpL_ap, va_cpy, bt_xor, bt_and, bt_or, bt_0, bt_m1 hσ, bt_cm hσ, lvb, z14 1 (by decide) (by decide), z14 2 (by decide) (by decide), z14 3 (by decide) (by decide), z14 4 (by decide) (by decide), z14 5 (by decide) (by decide), z15 3 (by decide) (by decide), z15 4 (by decide) (by decide), z15 5 (by decide) (by decide), z17 0 (by decide), z17 1 (by decide), z17 2 (by decide), z17 3 (by decide), z17 4 (by decide), z17 5 (by decide)]
      generalize bt (hl 14 0) σ = a0
      generalize bt (hl 15 0) σ = b0
      generalize bt (hl 15 1) σ = b1
      generalize bt (hl 15 2) σ = b2
      generalize bt (hl 16 0) σ = c0
      generalize bt (hl 16 1) σ = c1
      generalize bt (hl 16 2) σ = c2
      revert a0 b0 b1 b2 c0 c1 c2
      decide +kernel
    · simp (decide := true) only [opM, ↓reduceIte]
      simp [u2_ap, cpL_ap, va_cpy, bt_xor, bt_and, bt_or, bt_0, bt_m1 hσ, bt_cm hσ, lvb, z14 1 (by decide) (by decide), z14 2 (by decide) (by decide), z14 3 (by decide) (by decide), z14 4 (by decide) (by decide), z14 5 (by decide) (by decide), z15 3 (by decide) (by decide), z15 4 (by decide) (by decide), z15 5 (by decide) (by decide), z17 0 (by decide), z17 1 (by decide), z17 2 (by decide), z17 3 (by decide), z17 4 (by decide), z17 5 (by decide)]
      generalize bt (hl 14 0) σ = a0
      generalize bt (hl 15 0) σ = b0
      generalize bt (hl 15 1) σ = b1
      generalize bt (hl 15 2) σ = b2
      generalize bt (hl 16 0) σ = c0
      generalize bt (hl 16 1) σ = c1
      generalize bt (hl 16 2) σ = c2
      revert a0 b0 b1 b2 c0 c1 c2
      decide +kernel
    · simp (decide := true) only [opM, ↓reduceIte]
      simp [u2_ap, cpL_ap, va_cpy, bt_xor, bt_and, bt_or, bt_0, bt_m1 hσ, bt_cm hσ, lvb, z14 1 (by decide) (by decide), z14 2 (by decide) (by decide), z14 3 (by decide) (by decide), z14 4 (by decide) (by decide), z14 5 (by decide) (by decide), z15 3 (by decide) (by decide), z15 4 (by decide) (by decide), z15 5 (by decide) (by decide), z17 0 (by decide), z17 1 (by decide), z17 2 (by decide), z17 3 (by decide), z17 4 (by decide), z17 5 (by decide)]
      generalize bt (hl 14 0) σ = a0
      generalize bt (hl 15 0) σ = b0
      generalize bt (hl 15 1) σ = b1
      generalize bt (hl 15 2) σ = b2
      generalize bt (hl 16 0) σ = c0
      generalize bt (hl 16 1) σ = c1
      generalize bt (hl 16 2) σ = c2
      revert a0 b0 b1 b2 c0 c1 c2
      decide +kernel
theorem jn_24_4_1_4 (hi : HI) (hl : HL) (Φ : HI → HL → Prop) (ew eW eb el eu : Int32) (h3 : hi 10 3 = 24) (h6 : hi 13 6 = 4) (h7 : hi 13 7 = 1) (h8 : hi 13 8 = 4) (z14 : ∀ j, 1 ≤ j → j < 6 → hl 14 j = 0) (z15 : ∀ j, 4 ≤ j → j < 6 → hl 15 j = 0) (z17 : ∀ j, j < 6 → hl 17 j = 0)
    (h : ∀ hl', (∀ c, (c < 14 ∨ 19 < c) → hl' c = hl c) → (∀ σ, σ < 64 → ∀ j, j < 4 → bt (hl' 17 j) σ = (opM 24 ew eW eb el eu (nI (lvb (fun j => bt (hl 15 j) σ) 4)) (nI (lvb (fun j => bt (hl 16 j) σ) 4)) (nI (lvb (fun j => bt (hl 14 j) σ) 1))).toNatClampNeg.testBit j) → Φ hi hl') : wpG_join hi hl Φ := by
  have hv : vp_in (24 : Int32) 31 := vp31 24 (by decide)
  have e : swC (24 : Int32).toNatClampNeg = 14 := by decide
  have e2 : swC 24 = 14 := by decide
  unfold wpG_join wbG_join_0
  rw [h3, e]
  simp (decide := true) only [false_implies, true_implies, and_true, true_and, not_true, not_false_eq_true, hv]
  unfold wpG_joinByBits wbG_joinByBits_0
  refine ⟨5, ?_⟩
  simp [wbG_joinByBits_2, wpG_joinBit, wbG_joinBit_0, wpG_choose, wbG_choose_0, hv, e2, h6, h7, h8, u2_ap, vp_in]
  refine h _ (fun c hc => ?_) (fun σ hσ j hj => ?_)
  · funext b
    simp only [u2_ap, cpL_ap]
    repeat rw [if_neg (by omega)]
  · have hc : j = 0 ∨ j = 1 ∨ j = 2 ∨ j = 3 := by omega
    rcases hc with rfl | rfl | rfl | rfl
    · simp (decide := true) only [opM, ↓reduceIte]
      simp [u2_ap, cpL_ap, va_cpy, bt_xor, bt_and, bt_or, bt_0, bt_m1 hσ, bt_cm hσ, lvb, z14 1 (by decide) (by decide), z14 2 (by decide) (by decide), z14 3 (by decide) (by decide), z14 4 (by decide) (by decide), z14 5 (by decide) (by decide), z15 4 (by decide) (by decide), z15 5 (by decide) (by decide), z17 0 (by decide), z17 1 (by decide), z17 2 (by decide), z17 3 (by decide), z17 4 (by decide), z17 5 (by decide)]
      generalize bt (hl 14 0) σ = a0
      generalize bt (hl 15 0) σ = b0
      generalize bt (hl 15 1) σ = b1
      generalize bt (hl 15 2) σ = b2
      generalize bt (hl 15 3) σ = b3
      generalize bt (hl 16 0) σ = c0
      generalize bt (hl 16 1) σ = c1
      generalize bt (hl 16 2) σ = c2
      generalize bt (hl 16 3) σ = c3
      revert a0 b0 b1 b2 b3 c0 c1 c2 c3
      decide +kernel
    · simp (decide := true) only [opM, ↓reduceIte]
      simp [u2_ap, cpL_ap, va_cpy, bt_xor, bt_and, bt_or, bt_0, bt_m1 hσ, bt_cm hσ, lvb, z14 1 (by decide) (by decide), z14 2 (by decide) (by decide), z14 3 (by decide) (by decide), z14 4 (by decide) (by decide), z14 5 (by decide) (by decide), z15 4 (by decide) (by decide), z15 5 (by decide) (by decide), z17 0 (by decide), z17 1 (by decide), z17 2 (by decide), z17 3 (by decide), z17 4 (by decide), z17 5 (by decide)]
      generalize bt (hl 14 0) σ = a0
      generalize bt (hl 15 0) σ = b0
      generalize bt (hl 15 1) σ = b1
      generalize bt (hl 15 2) σ = b2
      generalize bt (hl 15 3) σ = b3
      generalize bt (hl 16 0) σ = c0
      generalize bt (hl 16 1) σ = c1
      generalize bt (hl 16 2) σ = c2
      generalize bt (hl 16 3) σ = c3
      revert a0 b0 b1 b2 b3 c0 c1 c2 c3
      decide +kernel
    · simp (decide := true) only [opM, ↓reduceIte]
      simp [u2_ap, cpL_ap, va_cpy, bt_xor, bt_and, bt_or, bt_0, bt_m1 hσ, bt_cm hσ, lvb, z14 1 (by decide) (by decide), z14 2 (by decide) (by decide), z14 3 (by decide) (by decide), z14 4 (by decide) (by decide), z14 5 (by decide) (by decide), z15 4 (by decide) (by decide), z15 5 (by decide) (by decide), z17 0 (by decide), z17 1 (by decide), z17 2 (by decide), z17 3 (by decide), z17 4 (by decide), z17 5 (by decide)]
      generalize bt (hl 14 0) σ = a0
      generalize bt (hl 15 0) σ = b0
      generalize bt (hl 15 1) σ = b1
      generalize bt (hl 15 2) σ = b2
      generalize bt (hl 15 3) σ = b3
      generalize bt (hl 16 0) σ = c0
      generalize bt (hl 16 1) σ = c1
      generalize bt (hl 16 2) σ = c2
      generalize bt (hl 16 3) σ = c3
      revert a0 b0 b1 b2 b3 c0 c1 c2 c3
      decide +kernel
    · simp (decide := true) only [opM, ↓reduceIte]
      simp [u2_ap, cpL_ap, va_cpy, bt_xor, bt_and, bt_or, bt_0, bt_m1 hσ, bt_cm hσ, lvb, z14 1 (by decide) (by decide), z14 2 (by decide) (by decide), z14 3 (by decide) (by decide), z14 4 (by decide) (by decide), z14 5 (by decide) (by decide), z15 4 (by decide) (by decide), z15 5 (by decide) (by decide), z17 0 (by decide), z17 1 (by decide), z17 2 (by decide), z17 3 (by decide), z17 4 (by decide), z17 5 (by decide)]
      generalize bt (hl 14 0) σ = a0
      generalize bt (hl 15 0) σ = b0
      generalize bt (hl 15 1) σ = b1
      generalize bt (hl 15 2) σ = b2
      generalize bt (hl 15 3) σ = b3
      generalize bt (hl 16 0) σ = c0
      generalize bt (hl 16 1) σ = c1
      generalize bt (hl 16 2) σ = c2
      generalize bt (hl 16 3) σ = c3
      revert a0 b0 b1 b2 b3 c0 c1 c2 c3
      decide +kernel
theorem jn_24_6_1_6 (hi : HI) (hl : HL) (Φ : HI → HL → Prop) (ew eW eb el eu : Int32) (h3 : hi 10 3 = 24) (h6 : hi 13 6 = 6) (h7 : hi 13 7 = 1) (h8 : hi 13 8 = 6) (z14 : ∀ j, 1 ≤ j → j < 6 → hl 14 j = 0) (z15 : ∀ j, 6 ≤ j → j < 6 → hl 15 j = 0) (z17 : ∀ j, j < 6 → hl 17 j = 0)
    (h : ∀ hl', (∀ c, (c < 14 ∨ 19 < c) → hl' c = hl c) → (∀ σ, σ < 64 → ∀ j, j < 6 → bt (hl' 17 j) σ = (opM 24 ew eW eb el eu (nI (lvb (fun j => bt (hl 15 j) σ) 6)) (nI (lvb (fun j => bt (hl 16 j) σ) 6)) (nI (lvb (fun j => bt (hl 14 j) σ) 1))).toNatClampNeg.testBit j) → Φ hi hl') : wpG_join hi hl Φ := by
  have hv : vp_in (24 : Int32) 31 := vp31 24 (by decide)
  have e : swC (24 : Int32).toNatClampNeg = 14 := by decide
  have e2 : swC 24 = 14 := by decide
  unfold wpG_join wbG_join_0
  rw [h3, e]
  simp (decide := true) only [false_implies, true_implies, and_true, true_and, not_true, not_false_eq_true, hv]
  unfold wpG_joinByBits wbG_joinByBits_0
  refine ⟨7, ?_⟩
  simp [wbG_joinByBits_2, wpG_joinBit, wbG_joinBit_0, wpG_choose, wbG_choose_0, hv, e2, h6, h7, h8, u2_ap, vp_in]
  refine h _ (fun c hc => ?_) (fun σ hσ j hj => ?_)
  · funext b
    simp only [u2_ap, cpL_ap]
    repeat rw [if_neg (by omega)]
  · have hc : j = 0 ∨ j = 1 ∨ j = 2 ∨ j = 3 ∨ j = 4 ∨ j = 5 := by omega
    rcases hc with rfl | rfl | rfl | rfl | rfl | rfl
    · simp (decide := true) only [opM, ↓reduceIte]
      simp [u2_ap, cpL_ap, va_cpy, bt_xor, bt_and, bt_or, bt_0, bt_m1 hσ, bt_cm hσ, lvb, z14 1 (by decide) (by decide), z14 2 (by decide) (by decide), z14 3 (by decide) (by decide), z14 4 (by decide) (by decide), z14 5 (by decide) (by decide), z17 0 (by decide), z17 1 (by decide), z17 2 (by decide), z17 3 (by decide), z17 4 (by decide), z17 5 (by decide)]
      generalize bt (hl 14 0) σ = a0
      generalize bt (hl 15 0) σ = b0
      generalize bt (hl 15 1) σ = b1
      generalize bt (hl 15 2) σ = b2
      generalize bt (hl 15 3) σ = b3
      generalize bt (hl 15 4) σ = b4
      generalize bt (hl 15 5) σ = b5
      generalize bt (hl 16 0) σ = c0
      generalize bt (hl 16 1) σ = c1
      generalize bt (hl 16 2) σ = c2
      generalize bt (hl 16 3) σ = c3
      generalize bt (hl 16 4) σ = c4
      generalize bt (hl 16 5) σ = c5
      revert a0 b0 b1 b2 b3 b4 b5 c0 c1 c2 c3 c4 c5
      decide +kernel
    · simp (decide := true) only [opM, ↓reduceIte]
      simp [u2_ap, cpL_ap, va_cpy, bt_xor, bt_and, bt_or, bt_0, bt_m1 hσ, bt_cm hσ, lvb, z14 1 (by decide) (by decide), z14 2 (by decide) (by decide), z14 3 (by decide) (by decide), z14 4 (by decide) (by decide), z14 5 (by decide) (by decide), z17 0 (by decide), z17 1 (by decide), z17 2 (by decide), z17 3 (by decide), z17 4 (by decide), z17 5 (by decide)]
      generalize bt (hl 14 0) σ = a0
      generalize bt (hl 15 0) σ = b0
      generalize bt (hl 15 1) σ = b1
      generalize bt (hl 15 2) σ = b2
      generalize bt (hl 15 3) σ = b3
      generalize bt (hl 15 4) σ = b4
      generalize bt (hl 15 5) σ = b5
      generalize bt (hl 16 0) σ = c0
      generalize bt (hl 16 1) σ = c1
      generalize bt (hl 16 2) σ = c2
      generalize bt (hl 16 3) σ = c3
      generalize bt (hl 16 4) σ = c4
      generalize bt (hl 16 5) σ = c5
      revert a0 b0 b1 b2 b3 b4 b5 c0 c1 c2 c3 c4 c5
      decide +kernel
    · simp (decide := true) only [opM, ↓reduceIte]
      simp [u2_ap, cpL_ap, va_cpy, bt_xor, bt_and, bt_or, bt_0, bt_m1 hσ, bt_cm hσ, lvb, z14 1 (by decide) (by decide), z14 2 (by decide) (by decide), z14 3 (by decide) (by decide), z14 4 (by decide) (by decide), z14 5 (by decide) (by decide), z17 0 (by decide), z17 1 (by decide), z17 2 (by decide), z17 3 (by decide), z17 4 (by decide), z17 5 (by decide)]
      generalize bt (hl 14 0) σ = a0
      generalize bt (hl 15 0) σ = b0
      generalize bt (hl 15 1) σ = b1
      generalize bt (hl 15 2) σ = b2
      generalize bt (hl 15 3) σ = b3
      generalize bt (hl 15 4) σ = b4
      generalize bt (hl 15 5) σ = b5
      generalize bt (hl 16 0) σ = c0
      generalize bt (hl 16 1) σ = c1
      generalize bt (hl 16 2) σ = c2
      generalize bt (hl 16 3) σ = c3
      generalize bt (hl 16 4) σ = c4
      generalize bt (hl 16 5) σ = c5
      revert a0 b0 b1 b2 b3 b4 b5 c0 c1 c2 c3 c4 c5
      decide +kernel
    · simp (decide := true) only [opM, ↓reduceIte]
      simp [u2_ap, cpL_ap, va_cpy, bt_xor, bt_and, bt_or, bt_0, bt_m1 hσ, bt_cm hσ, lvb, z14 1 (by decide) (by decide), z14 2 (by decide) (by decide), z14 3 (by decide) (by decide), z14 4 (by decide) (by decide), z14 5 (by decide) (by decide), z17 0 (by decide), z17 1 (by decide), z17 2 (by decide), z17 3 (by decide), z17 4 (by decide), z17 5 (by decide)]
      generalize bt (hl 14 0) σ = a0
      generalize bt (hl 15 0) σ = b0
      generalize bt (hl 15 1) σ = b1
      generalize bt (hl 15 2) σ = b2
      generalize bt (hl 15 3) σ = b3
      generalize bt (hl 15 4) σ = b4
      generalize bt (hl 15 5) σ = b5
      generalize bt (hl 16 0) σ = c0
      generalize bt (hl 16 1) σ = c1
      generalize bt (hl 16 2) σ = c2
      generalize bt (hl 16 3) σ = c3
      generalize bt (hl 16 4) σ = c4
      generalize bt (hl 16 5) σ = c5
      revert a0 b0 b1 b2 b3 b4 b5 c0 c1 c2 c3 c4 c5
      decide +kernel
    · simp (decide := true) only [opM, ↓reduceIte]
      simp [u2_ap, cpL_ap, va_cpy, bt_xor, bt_and, bt_or, bt_0, bt_m1 hσ, bt_cm hσ, lvb, z14 1 (by decide) (by decide), z14 2 (by decide) (by decide), z14 3 (by decide) (by decide), z14 4 (by decide) (by decide), z14 5 (by decide) (by decide), z17 0 (by decide), z17 1 (by decide), z17 2 (by decide), z17 3 (by decide), z17 4 (by decide), z17 5 (by decide)]
      generalize bt (hl 14 0) σ = a0
      generalize bt (hl 15 0) σ = b0
      generalize bt (hl 15 1) σ = b1
      generalize bt (hl 15 2) σ = b2
      generalize bt (hl 15 3) σ = b3
      generalize bt (hl 15 4) σ = b4
      generalize bt (hl 15 5) σ = b5
      generalize bt (hl 16 0) σ = c0
      generalize bt (hl 16 1) σ = c1
      generalize bt (hl 16 2) σ = c2
      generalize bt (hl 16 3) σ = c3
      generalize bt (hl 16 4) σ = c4
      generalize bt (hl 16 5) σ = c5
      revert a0 b0 b1 b2 b3 b4 b5 c0 c1 c2 c3 c4 c5
      decide +kernel
    · simp (decide := true) only [opM, ↓reduceIte]
      simp [u2_ap, cpL_ap, va_cpy, bt_xor, bt_and, bt_or, bt_0, bt_m1 hσ, bt_cm hσ, lvb, z14 1 (by decide) (by decide), z14 2 (by decide) (by decide), z14 3 (by decide) (by decide), z14 4 (by decide) (by decide), z14 5 (by decide) (by decide), z17 0 (by decide), z17 1 (by decide), z17 2 (by decide), z17 3 (by decide), z17 4 (by decide), z17 5 (by decide)]
      generalize bt (hl 14 0) σ = a0
      generalize bt (hl 15 0) σ = b0
      generalize bt (hl 15 1) σ = b1
      generalize bt (hl 15 2) σ = b2
      generalize bt (hl 15 3) σ = b3
      generalize bt (hl 15 4) σ = b4
      generalize bt (hl 15 5) σ = b5
      generalize bt (hl 16 0) σ = c0
      generalize bt (hl 16 1) σ = c1
      generalize bt (hl 16 2) σ = c2
      generalize bt (hl 16 3) σ = c3
      generalize bt (hl 16 4) σ = c4
      generalize bt (hl 16 5) σ = c5
      revert a0 b0 b1 b2 b3 b4 b5 c0 c1 c2 c3 c4 c5
      decide +kernel
theorem jn_25_1_2_1 (hi : HI) (hl : HL) (Φ : HI → HL → Prop) (eW eb el eu ez : Int32) (h3 : hi 10 3 = 25) (h6 : hi 13 6 = 1) (h7 : hi 13 7 = 2) (h8 : hi 13 8 = 1) (z14 : ∀ j, 2 ≤ j → j < 6 → hl 14 j = 0) (z15 : ∀ j, 1 ≤ j → j < 6 → hl 15 j = 0) (z17 : ∀ j, j < 6 → hl 17 j = 0)
    (h : ∀ hl', (∀ c, (c < 14 ∨ 19 < c) → hl' c = hl c) → (∀ σ, σ < 64 → ∀ j, j < 1 → bt (hl' 17 j) σ = (opM 25 (nI 1) eW eb el eu (nI (lvb (fun j => bt (hl 14 j) σ) 2)) (nI (lvb (fun j => bt (hl 15 j) σ) 1)) ez).toNatClampNeg.testBit j) → Φ hi hl') : wpG_join hi hl Φ := by
  have hv : vp_in (25 : Int32) 31 := vp31 25 (by decide)
  have e : swC (25 : Int32).toNatClampNeg = 22 := by decide
  have e2 : swC 25 = 22 := by decide
  unfold wpG_join wbG_join_0
  rw [h3, e]
  simp (decide := true) only [false_implies, true_implies, and_true, true_and, not_true, not_false_eq_true, hv]
  unfold wpG_arrange wbG_arrange_0
  refine ⟨by decide, ⟨2, ?_⟩⟩
  simp [wbG_arrange_9, wbG_arrange_93, wbG_arrange_138, wbG_arrange_118, wbG_arrange_234, wbG_arrange_250, wpG_choose, wbG_choose_0, hv, e2, h6, h7, h8, u2_ap, vp_in]
  refine h _ (fun c hc => ?_) (fun σ hσ j hj => ?_)
  · funext b
    simp only [u2_ap, cpL_ap]
    repeat rw [if_neg (by omega)]
  · have hc : j = 0 := by omega
    subst hc
    · simp (decide := true) only [opM, ↓reduceIte]
      simp [u2_ap, cpL_ap, va_cpy, bt_xor, bt_and, bt_or, bt_0, bt_m1 hσ, bt_cm hσ, lvb, z14 2 (by decide) (by decide), z14 3 (by decide) (by decide), z14 4 (by decide) (by decide), z14 5 (by decide) (by decide), z15 1 (by decide) (by decide), z15 2 (by decide) (by decide), z15 3 (by decide) (by decide), z15 4 (by decide) (by decide), z15 5 (by decide) (by decide), z17 0 (by decide), z17 1 (by decide), z17 2 (by decide), z17 3 (by decide), z17 4 (by decide), z17 5 (by decide)]
      generalize bt (hl 14 0) σ = a0
      generalize bt (hl 14 1) σ = a1
      generalize bt (hl 15 0) σ = b0
      revert a0 a1 b0
      decide +kernel
theorem jn_26_2_2_1 (hi : HI) (hl : HL) (Φ : HI → HL → Prop) (eW eb el eu : Int32) (h3 : hi 10 3 = 26) (h6 : hi 13 6 = 2) (h7 : hi 13 7 = 2) (h8 : hi 13 8 = 1) (z14 : ∀ j, 2 ≤ j → j < 6 → hl 14 j = 0) (z15 : ∀ j, 1 ≤ j → j < 6 → hl 15 j = 0) (z17 : ∀ j, j < 6 → hl 17 j = 0)
    (h : ∀ hl', (∀ c, (c < 14 ∨ 19 < c) → hl' c = hl c) → (∀ σ, σ < 64 → ∀ j, j < 2 → bt (hl' 17 j) σ = (opM 26 (nI 1) eW eb el eu (nI (lvb (fun j => bt (hl 14 j) σ) 2)) (nI (lvb (fun j => bt (hl 15 j) σ) 1)) (nI (lvb (fun j => bt (hl 16 j) σ) 1))).toNatClampNeg.testBit j) → Φ hi hl') : wpG_join hi hl Φ := by
  have hv : vp_in (26 : Int32) 31 := vp31 26 (by decide)
  have e : swC (26 : Int32).toNatClampNeg = 23 := by decide
  have e2 : swC 26 = 23 := by decide
  unfold wpG_join wbG_join_0
  rw [h3, e]
  simp (decide := true) only [false_implies, true_implies, and_true, true_and, not_true, not_false_eq_true, hv]
  unfold wpG_arrange wbG_arrange_0
  refine ⟨by decide, ⟨3, ?_⟩⟩
  simp [wbG_arrange_9, wbG_arrange_93, wbG_arrange_138, wbG_arrange_118, wbG_arrange_234, wbG_arrange_250, wpG_choose, wbG_choose_0, hv, e2, h6, h7, h8, u2_ap, vp_in]
  refine h _ (fun c hc => ?_) (fun σ hσ j hj => ?_)
  · funext b
    simp only [u2_ap, cpL_ap]
    repeat rw [if_neg (by omega)]
  · have hc : j = 0 ∨ j = 1 := by omega
    rcases hc with rfl | rfl
    · simp (decide := true) only [opM, ↓reduceIte]
      simp [u2_ap, cpL_ap, va_cpy, bt_xor, bt_and, bt_or, bt_0, bt_m1 hσ, bt_cm hσ, lvb, z14 2 (by decide) (by decide), z14 3 (by decide) (by decide), z14 4 (by decide) (by decide), z14 5 (by decide) (by decide), z15 1 (by decide) (by decide), z15 2 (by decide) (by decide), z15 3 (by decide) (by decide), z15 4 (by decide) (by decide), z15 5 (by decide) (by decide), z17 0 (by decide), z17 1 (by decide), z17 2 (by decide), z17 3 (by decide), z17 4 (by decide), z17 5 (by decide)]
      generalize bt (hl 14 0) σ = a0
      generalize bt (hl 14 1) σ = a1
      generalize bt (hl 15 0) σ = b0
      generalize bt (hl 16 0) σ = c0
      revert a0 a1 b0 c0
      decide +kernel
    · simp (decide := true) only [opM, ↓reduceIte]
      simp [u2_ap, cpL_ap, va_cpy, bt_xor, bt_and, bt_or, bt_0, bt_m1 hσ, bt_cm hσ, lvb, z14 2 (by decide) (by decide), z14 3 (by decide) (by decide), z14 4 (by decide) (by decide), z14 5 (by decide) (by decide), z15 1 (by decide) (by decide), z15 2 (by decide) (by decide), z15 3 (by decide) (by decide), z15 4 (by decide) (by decide), z15 5 (by decide) (by decide), z17 0 (by decide), z17 1 (by decide), z17 2 (by decide), z17 3 (by decide), z17 4 (by decide), z17 5 (by decide)]
      generalize bt (hl 14 0) σ = a0
      generalize bt (hl 14 1) σ = a1
      generalize bt (hl 15 0) σ = b0
      generalize bt (hl 16 0) σ = c0
      revert a0 a1 b0 c0
      decide +kernel
theorem jn_25_2_4_1 (hi : HI) (hl : HL) (Φ : HI → HL → Prop) (eW eb el eu ez : Int32) (h3 : hi 10 3 = 25) (h6 : hi 13 6 = 2) (h7 : hi 13 7 = 4) (h8 : hi 13 8 = 1) (z14 : ∀ j, 4 ≤ j → j < 6 → hl 14 j = 0) (z15 : ∀ j, 1 ≤ j → j < 6 → hl 15 j = 0) (z17 : ∀ j, j < 6 → hl 17 j = 0)
    (h : ∀ hl', (∀ c, (c < 14 ∨ 19 < c) → hl' c = hl c) → (∀ σ, σ < 64 → ∀ j, j < 2 → bt (hl' 17 j) σ = (opM 25 (nI 2) eW eb el eu (nI (lvb (fun j => bt (hl 14 j) σ) 4)) (nI (lvb (fun j => bt (hl 15 j) σ) 1)) ez).toNatClampNeg.testBit j) → Φ hi hl') : wpG_join hi hl Φ := by
  have hv : vp_in (25 : Int32) 31 := vp31 25 (by decide)
  have e : swC (25 : Int32).toNatClampNeg = 22 := by decide
  have e2 : swC 25 = 22 := by decide
  unfold wpG_join wbG_join_0
  rw [h3, e]
  simp (decide := true) only [false_implies, true_implies, and_true, true_and, not_true, not_false_eq_true, hv]
  unfold wpG_arrange wbG_arrange_0
  refine ⟨by decide, ⟨3, ?_⟩⟩
  simp [wbG_arrange_9, wbG_arrange_93, wbG_arrange_138, wbG_arrange_118, wbG_arrange_234, wbG_arrange_250, wpG_choose, wbG_choose_0, hv, e2, h6, h7, h8, u2_ap, vp_in]
  refine h _ (fun c hc => ?_) (fun σ hσ j hj => ?_)
  · funext b
    simp only [u2_ap, cpL_ap]
    repeat rw [if_neg (by omega)]
  · have hc : j = 0 ∨ j = 1 := by omega
    rcases hc with rfl | rfl
    · simp (decide := true) only [opM, ↓reduceIte]
      simp [u2_ap, cpL_ap, va_cpy, bt_xor, bt_and, bt_or, bt_0, bt_m1 hσ, bt_cm hσ, lvb, z14 4 (by decide) (by decide), z14 5 (by decide) (by decide), z15 1 (by decide) (by decide), z15 2 (by decide) (by decide), z15 3 (by decide) (by decide), z15 4 (by decide) (by decide), z15 5 (by decide) (by decide), z17 0 (by decide), z17 1 (by decide), z17 2 (by decide), z17 3 (by decide), z17 4 (by decide), z17 5 (by decide)]
      generalize bt (hl 14 0) σ = a0
      generalize bt (hl 14 1) σ = a1
      generalize bt (hl 14 2) σ = a2
      generalize bt (hl 14 3) σ = a3
      generalize bt (hl 15 0) σ = b0
      revert a0 a1 a2 a3 b0
      decide +kernel
    · simp (decide := true) only [opM, ↓reduceIte]
      simp [u2_ap, cpL_ap, va_cpy, bt_xor, bt_and, bt_or, bt_0, bt_m1 hσ, bt_cm hσ, lvb, z14 4 (by decide) (by decide), z14 5 (by decide) (by decide), z15 1 (by decide) (by decide), z15 2 (by decide) (by decide), z15 3 (by decide) (by decide), z15 4 (by decide) (by decide), z15 5 (by decide) (by decide), z17 0 (by decide), z17 1 (by decide), z17 2 (by decide), z17 3 (by decide), z17 4 (by decide), z17 5 (by decide)]
      generalize bt (hl 14 0) σ = a0
      generalize bt (hl 14 1) σ = a1
      generalize bt (hl 14 2) σ = a2
      generalize bt (hl 14 3) σ = a3
      generalize bt (hl 15 0) σ = b0
      revert a0 a1 a2 a3 b0
      decide +kernel
theorem jn_26_4_4_1 (hi : HI) (hl : HL) (Φ : HI → HL → Prop) (eW eb el eu : Int32) (h3 : hi 10 3 = 26) (h6 : hi 13 6 = 4) (h7 : hi 13 7 = 4) (h8 : hi 13 8 = 1) (z14 : ∀ j, 4 ≤ j → j < 6 → hl 14 j = 0) (z15 : ∀ j, 1 ≤ j → j < 6 → hl 15 j = 0) (z17 : ∀ j, j < 6 → hl 17 j = 0)
    (h : ∀ hl', (∀ c, (c < 14 ∨ 19 < c) → hl' c = hl c) → (∀ σ, σ < 64 → ∀ j, j < 4 → bt (hl' 17 j) σ = (opM 26 (nI 2) eW eb el eu (nI (lvb (fun j => bt (hl 14 j) σ) 4)) (nI (lvb (fun j => bt (hl 15 j) σ) 1)) (nI (lvb (fun j => bt (hl 16 j) σ) 2))).toNatClampNeg.testBit j) → Φ hi hl') : wpG_join hi hl Φ := by
  have hv : vp_in (26 : Int32) 31 := vp31 26 (by decide)
  have e : swC (26 : Int32).toNatClampNeg = 23 := by decide
  have e2 : swC 26 = 23 := by decide
  unfold wpG_join wbG_join_0
  rw [h3, e]
  simp (decide := true) only [false_implies, true_implies, and_true, true_and, not_true, not_false_eq_true, hv]
  unfold wpG_arrange wbG_arrange_0
  refine ⟨by decide, ⟨5, ?_⟩⟩
  simp [wbG_arrange_9, wbG_arrange_93, wbG_arrange_138, wbG_arrange_118, wbG_arrange_234, wbG_arrange_250, wpG_choose, wbG_choose_0, hv, e2, h6, h7, h8, u2_ap, vp_in]
  refine h _ (fun c hc => ?_) (fun σ hσ j hj => ?_)
  · funext b
    simp only [u2_ap, cpL_ap]
    repeat rw [if_neg (by omega)]
  · have hc : j = 0 ∨ j = 1 ∨ j = 2 ∨ j = 3 := by omega
    rcases hc with rfl | rfl | rfl | rfl
    · simp (decide := true) only [opM, ↓reduceIte]
      simp [u2_ap, cpL_ap, va_cpy, bt_xor, bt_and, bt_or, bt_0, bt_m1 hσ, bt_cm hσ, lvb, z14 4 (by decide) (by decide), z14 5 (by decide) (by decide), z15 1 (by decide) (by decide), z15 2 (by decide) (by decide), z15 3 (by decide) (by decide), z15 4 (by decide) (by decide), z15 5 (by decide) (by decide), z17 0 (by decide), z17 1 (by decide), z17 2 (by decide), z17 3 (by decide), z17 4 (by decide), z17 5 (by decide)]
      generalize bt (hl 14 0) σ = a0
      generalize bt (hl 14 1) σ = a1
      generalize bt (hl 14 2) σ = a2
      generalize bt (hl 14 3) σ = a3
      generalize bt (hl 15 0) σ = b0
      generalize bt (hl 16 0) σ = c0
      generalize bt (hl 16 1) σ = c1
      revert a0 a1 a2 a3 b0 c0 c1
      decide +kernel
    · simp (decide := true) only [opM, ↓reduceIte]
      simp [u2_ap, cpL_ap, va_cpy, bt_xor, bt_and, bt_or, bt_0, bt_m1 hσ, bt_cm hσ, lvb, z14 4 (by decide) (by decide), z14 5 (by decide) (by decide), z15 1 (by decide) (by decide), z15 2 (by decide) (by decide), z15 3 (by decide) (by decide), z15 4 (by decide) (by decide), z15 5 (by decide) (by decide), z17 0 (by decide), z17 1 (by decide), z17 2 (by decide), z17 3 (by decide), z17 4 (by decide), z17 5 (by decide)]
      generalize bt (hl 14 0) σ = a0
      generalize bt (hl 14 1) σ = a1
      generalize bt (hl 14 2) σ = a2
      generalize bt (hl 14 3) σ = a3
      generalize bt (hl 15 0) σ = b0
      generalize bt (hl 16 0) σ = c0
      generalize bt (hl 16 1) σ = c1
      revert a0 a1 a2 a3 b0 c0 c1
      decide +kernel
    · simp (decide := true) only [opM, ↓reduceIte]
      simp [u2_ap, cpL_ap, va_cpy, bt_xor, bt_and, bt_or, bt_0, bt_m1 hσ, bt_cm hσ, lvb, z14 4 (by decide) (by decide), z14 5 (by decide) (by decide), z15 1 (by decide) (by decide), z15 2 (by decide) (by decide), z15 3 (by decide) (by decide), z15 4 (by decide) (by decide), z15 5 (by decide) (by decide), z17 0 (by decide), z17 1 (by decide), z17 2 (by decide), z17 3 (by decide), z17 4 (by decide), z17 5 (by decide)]
      generalize bt (hl 14 0) σ = a0
      generalize bt (hl 14 1) σ = a1
      generalize bt (hl 14 2) σ = a2
      generalize bt (hl 14 3) σ = a3
      generalize bt (hl 15 0) σ = b0
      generalize bt (hl 16 0) σ = c0
      generalize bt (hl 16 1) σ = c1
      revert a0 a1 a2 a3 b0 c0 c1
      decide +kernel
    · simp (decide := true) only [opM, ↓reduceIte]
      simp [u2_ap, cpL_ap, va_cpy, bt_xor, bt_and, bt_or, bt_0, bt_m1 hσ, bt_cm hσ, lvb, z14 4 (by decide) (by decide), z14 5 (by decide) (by decide), z15 1 (by decide) (by decide), z15 2 (by decide) (by decide), z15 3 (by decide) (by decide), z15 4 (by decide) (by decide), z15 5 (by decide) (by decide), z17 0 (by decide), z17 1 (by decide), z17 2 (by decide), z17 3 (by decide), z17 4 (by decide), z17 5 (by decide)]
      generalize bt (hl 14 0) σ = a0
      generalize bt (hl 14 1) σ = a1
      generalize bt (hl 14 2) σ = a2
      generalize bt (hl 14 3) σ = a3
      generalize bt (hl 15 0) σ = b0
      generalize bt (hl 16 0) σ = c0
      generalize bt (hl 16 1) σ = c1
      revert a0 a1 a2 a3 b0 c0 c1
      decide +kernel
theorem jn_25_3_6_1 (hi : HI) (hl : HL) (Φ : HI → HL → Prop) (eW eb el eu ez : Int32) (h3 : hi 10 3 = 25) (h6 : hi 13 6 = 3) (h7 : hi 13 7 = 6) (h8 : hi 13 8 = 1) (z14 : ∀ j, 6 ≤ j → j < 6 → hl 14 j = 0) (z15 : ∀ j, 1 ≤ j → j < 6 → hl 15 j = 0) (z17 : ∀ j, j < 6 → hl 17 j = 0)
    (h : ∀ hl', (∀ c, (c < 14 ∨ 19 < c) → hl' c = hl c) → (∀ σ, σ < 64 → ∀ j, j < 3 → bt (hl' 17 j) σ = (opM 25 (nI 3) eW eb el eu (nI (lvb (fun j => bt (hl 14 j) σ) 6)) (nI (lvb (fun j => bt (hl 15 j) σ) 1)) ez).toNatClampNeg.testBit j) → Φ hi hl') : wpG_join hi hl Φ := by
  have hv : vp_in (25 : Int32) 31 := vp31 25 (by decide)
  have e : swC (25 : Int32).toNatClampNeg = 22 := by decide
  have e2 : swC 25 = 22 := by decide
  unfold wpG_join wbG_join_0
  rw [h3, e]
  simp (decide := true) only [false_implies, true_implies, and_true, true_and, not_true, not_false_eq_true, hv]
  unfold wpG_arrange wbG_arrange_0
  refine ⟨by decide, ⟨4, ?_⟩⟩
  simp [wbG_arrange_9, wbG_arrange_93, wbG_arrange_138, wbG_arrange_118, wbG_arrange_234, wbG_arrange_250, wpG_choose, wbG_choose_0, hv, e2, h6, h7, h8, u2_ap, vp_in]
  refine h _ (fun c hc => ?_) (fun σ hσ j hj => ?_)
  · funext b
    simp only [u2_ap, cpL_ap]
    repeat rw [if_neg (by omega)]
  · have hc : j = 0 ∨ j = 1 ∨ j = 2 := by omega
    rcases hc with rfl | rfl | rfl
    · simp (decide := true) only [opM, ↓reduceIte]
      simp [u2_ap, cpL_ap, va_cpy, bt_xor, bt_and, bt_or, bt_0, bt_m1 hσ, bt_cm hσ, lvb, z15 1 (by decide) (by decide), z15 2 (by decide) (by decide), z15 3 (by decide) (by decide), z15 4 (by decide) (by decide), z15 5 (by decide) (by decide), z17 0 (by decide), z17 1 (by decide), z17 2 (by decide), z17 3 (by decide), z17 4 (by decide), z17 5 (by decide)]
      generalize bt (hl 14 0) σ = a0
      generalize bt (hl 14 1) σ = a1
      generalize bt (hl 14 2) σ = a2
      generalize bt (hl 14 3) σ = a3
      generalize bt (hl 14 4) σ = a4
      generalize bt (hl 14 5) σ = a5
      generalize bt (hl 15 0) σ = b0
      revert a0 a1 a2 a3 a4 a5 b0
      decide +kernel
    · simp (decide := true) only [opM, ↓reduceIte]
      simp [u2_ap, cpL_ap, va_cpy, bt_xor, bt_and, bt_or, bt_0, bt_m1 hσ, bt_cm hσ, lvb, z15 1 (by decide) (by decide), z15 2 (by decide) (by decide), z15 3 (by decide) (by decide), z15 4 (by decide) (by decide), z15 5 (by decide) (by decide), z17 0 (by decide), z17 1 (by decide), z17 2 (by decide), z17 3 (by decide), z17 4 (by decide), z17 5 (by decide)]
      generalize bt (hl 14 0) σ = a0
      generalize bt (hl 14 1) σ = a1
      generalize bt (hl 14 2) σ = a2
      generalize bt (hl 14 3) σ = a3
      generalize bt (hl 14 4) σ = a4
      generalize bt (hl 14 5) σ = a5
      generalize bt (hl 15 0) σ = b0
      revert a0 a1 a2 a3 a4 a5 b0
      decide +kernel
    · simp (decide := true) only [opM, ↓reduceIte]
      simp [u2_ap, cpL_ap, va_cpy, bt_xor, bt_and, bt_or, bt_0, bt_m1 hσ, bt_cm hσ, lvb, z15 1 (by decide) (by decide), z15 2 (by decide) (by decide), z15 3 (by decide) (by decide), z15 4 (by decide) (by decide), z15 5 (by decide) (by decide), z17 0 (by decide), z17 1 (by decide), z17 2 (by decide), z17 3 (by decide), z17 4 (by decide), z17 5 (by decide)]
      generalize bt (hl 14 0) σ = a0
      generalize bt (hl 14 1) σ = a1
      generalize bt (hl 14 2) σ = a2
      generalize bt (hl 14 3) σ = a3
      generalize bt (hl 14 4) σ = a4
      generalize bt (hl 14 5) σ = a5
      generalize bt (hl 15 0) σ = b0
      revert a0 a1 a2 a3 a4 a5 b0
      decide +kernel
theorem jn_26_6_6_1 (hi : HI) (hl : HL) (Φ : HI → HL → Prop) (eW eb el eu : Int32) (h3 : hi 10 3 = 26) (h6 : hi 13 6 = 6) (h7 : hi 13 7 = 6) (h8 : hi 13 8 = 1) (z14 : ∀ j, 6 ≤ j → j < 6 → hl 14 j = 0) (z15 : ∀ j, 1 ≤ j → j < 6 → hl 15 j = 0) (z17 : ∀ j, j < 6 → hl 17 j = 0)
    (h : ∀ hl', (∀ c, (c < 14 ∨ 19 < c) → hl' c = hl c) → (∀ σ, σ < 64 → ∀ j, j < 6 → bt (hl' 17 j) σ = (opM 26 (nI 3) eW eb el eu (nI (lvb (fun j => bt (hl 14 j) σ) 6)) (nI (lvb (fun j => bt (hl 15 j) σ) 1)) (nI (lvb (fun j => bt (hl 16 j) σ) 3))).toNatClampNeg.testBit j) → Φ hi hl') : wpG_join hi hl Φ := by
  have hv : vp_in (26 : Int32) 31 := vp31 26 (by decide)
  have e : swC (26 : Int32).toNatClampNeg = 23 := by decide
  have e2 : swC 26 = 23 := by decide
  unfold wpG_join wbG_join_0
  rw [h3, e]
  simp (decide := true) only [false_implies, true_implies, and_true, true_and, not_true, not_false_eq_true, hv]
  unfold wpG_arrange wbG_arrange_0
  refine ⟨by decide, ⟨7, ?_⟩⟩
  simp [wbG_arrange_9, wbG_arrange_93, wbG_arrange_138, wbG_arrange_118, wbG_arrange_234, wbG_arrange_250, wpG_choose, wbG_choose_0, hv, e2, h6, h7, h8, u2_ap, vp_in]
  refine h _ (fun c hc => ?_) (fun σ hσ j hj => ?_)
  · funext b
    simp only [u2_ap, cpL_ap]
    repeat rw [if_neg (by omega)]
  · have hc : j = 0 ∨ j = 1 ∨ j = 2 ∨ j = 3 ∨ j = 4 ∨ j = 5 := by omega
    rcases hc with rfl | rfl | rfl | rfl | rfl | rfl
    · simp (decide := true) only [opM, ↓reduceIte]
      simp [u2_ap, cpL_ap, va_cpy, bt_xor, bt_and, bt_or, bt_0, bt_m1 hσ, bt_cm hσ, lvb, z15 1 (by decide) (by decide), z15 2 (by decide) (by decide), z15 3 (by decide) (by decide), z15 4 (by decide) (by decide), z15 5 (by decide) (by decide), z17 0 (by decide), z17 1 (by decide), z17 2 (by decide), z17 3 (by decide), z17 4 (by decide), z17 5 (by decide)]
      generalize bt (hl 14 0) σ = a0
      generalize bt (hl 14 1) σ = a1
      generalize bt (hl 14 2) σ = a2
      generalize bt (hl 14 3) σ = a3
      generalize bt (hl 14 4) σ = a4
      generalize bt (hl 14 5) σ = a5
      generalize bt (hl 15 0) σ = b0
      generalize bt (hl 16 0) σ = c0
      generalize bt (hl 16 1) σ = c1
      generalize bt (hl 16 2) σ = c2
      revert a0 a1 a2 a3 a4 a5 b0 c0 c1 c2
      decide +kernel
    · simp (decide := true) only [opM, ↓reduceIte]
      simp [u2_ap, cpL_ap, va_cpy, bt_xor, bt_and, bt_or, bt_0, bt_m1 hσ, bt_cm hσ, lvb, z15 1 (by decide) (by decide), z15 2 (by decide) (by decide), z15 3 (by decide) (by decide), z15 4 (by decide) (by decide), z15 5 (by decide) (by decide), z17 0 (by decide), z17 1 (by decide), z17 2 (by decide), z17 3 (by decide), z17 4 (by decide), z17 5 (by decide)]
      generalize bt (hl 14 0) σ = a0
      generalize bt (hl 14 1) σ = a1
      generalize bt (hl 14 2) σ = a2
      generalize bt (hl 14 3) σ = a3
      generalize bt (hl 14 4) σ = a4
      generalize bt (hl 14 5) σ = a5
      generalize bt (hl 15 0) σ = b0
      generalize bt (hl 16 0) σ = c0
      generalize bt (hl 16 1) σ = c1
      generalize bt (hl 16 2) σ = c2
      revert a0 a1 a2 a3 a4 a5 b0 c0 c1 c2
      decide +kernel
    · simp (decide := true) only [opM, ↓reduceIte]
      simp [u2_ap, cpL_ap, va_cpy, bt_xor, bt_and, bt_or, bt_0, bt_m1 hσ, bt_cm hσ, lvb, z15 1 (by decide) (by decide), z15 2 (by decide) (by decide), z15 3 (by decide) (by decide), z15 4 (by decide) (by decide), z15 5 (by decide) (by decide), z17 0 (by decide), z17 1 (by decide), z17 2 (by decide), z17 3 (by decide), z17 4 (by decide), z17 5 (by decide)]
      generalize bt (hl 14 0) σ = a0
      generalize bt (hl 14 1) σ = a1
      generalize bt (hl 14 2) σ = a2
      generalize bt (hl 14 3) σ = a3
      generalize bt (hl 14 4) σ = a4
      generalize bt (hl 14 5) σ = a5
      generalize bt (hl 15 0) σ = b0
      generalize bt (hl 16 0) σ = c0
      generalize bt (hl 16 1) σ = c1
      generalize bt (hl 16 2) σ = c2
      revert a0 a1 a2 a3 a4 a5 b0 c0 c1 c2
      decide +kernel
    · simp (decide := true) only [opM, ↓reduceIte]
      simp [u2_ap, cpL_ap, va_cpy, bt_xor, bt_and, bt_or, bt_0, bt_m1 hσ, bt_cm hσ, lvb, z15 1 (by decide) (by decide), z15 2 (by decide) (by decide), z15 3 (by decide) (by decide), z15 4 (by decide) (by decide), z15 5 (by decide) (by decide), z17 0 (by decide), z17 1 (by decide), z17 2 (by decide), z17 3 (by decide), z17 4 (by decide), z17 5 (by decide)]
      generalize bt (hl 14 0) σ = a0
      generalize bt (hl 14 1) σ = a1
      generalize bt (hl 14 2) σ = a2
      generalize bt (hl 14 3) σ = a3
      generalize bt (hl 14 4) σ = a4
      generalize bt (hl 14 5) σ = a5
      generalize bt (hl 15 0) σ = b0
      generalize bt (hl 16 0) σ = c0
      generalize bt (hl 16 1) σ = c1
      generalize bt (hl 16 2) σ = c2
      revert a0 a1 a2 a3 a4 a5 b0 c0 c1 c2
      decide +kernel
    · simp (decide := true) only [opM, ↓reduceIte]
      simp [u2_ap, cpL_ap, va_cpy, bt_xor, bt_and, bt_or, bt_0, bt_m1 hσ, bt_cm hσ, lvb, z15 1 (by decide) (by decide), z15 2 (by decide) (by decide), z15 3 (by decide) (by decide), z15 4 (by decide) (by decide), z15 5 (by decide) (by decide), z17 0 (by decide), z17 1 (by decide), z17 2 (by decide), z17 3 (by decide), z17 4 (by decide), z17 5 (by decide)]
      generalize bt (hl 14 0) σ = a0
      generalize bt (hl 14 1) σ = a1
      generalize bt (hl 14 2) σ = a2
      generalize bt (hl 14 3) σ = a3
      generalize bt (hl 14 4) σ = a4
      generalize bt (hl 14 5) σ = a5
      generalize bt (hl 15 0) σ = b0
      generalize bt (hl 16 0) σ = c0
      generalize bt (hl 16 1) σ = c1
      generalize bt (hl 16 2) σ = c2
      revert a0 a1 a2 a3 a4 a5 b0 c0 c1 c2
      decide +kernel
    · simp (decide := true) only [opM, ↓reduceIte]
      simp [u2_ap, cpL_ap, va_cpy, bt_xor, bt_and, bt_or, bt_0, bt_m1 hσ, bt_cm hσ, lvb, z15 1 (by decide) (by decide), z15 2 (by decide) (by decide), z15 3 (by decide) (by decide), z15 4 (by decide) (by decide), z15 5 (by decide) (by decide), z17 0 (by decide), z17 1 (by decide), z17 2 (by decide), z17 3 (by decide), z17 4 (by decide), z17 5 (by decide)]
      generalize bt (hl 14 0) σ = a0
      generalize bt (hl 14 1) σ = a1
      generalize bt (hl 14 2) σ = a2
      generalize bt (hl 14 3) σ = a3
      generalize bt (hl 14 4) σ = a4
      generalize bt (hl 14 5) σ = a5
      generalize bt (hl 15 0) σ = b0
      generalize bt (hl 16 0) σ = c0
      generalize bt (hl 16 1) σ = c1
      generalize bt (hl 16 2) σ = c2
      revert a0 a1 a2 a3 a4 a5 b0 c0 c1 c2
      decide +kernel
