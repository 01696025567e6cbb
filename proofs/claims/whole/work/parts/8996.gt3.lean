/-! gates: what they give, kind by kind and width by width (printed by wip/whole/pure/gates.py) -/
theorem jn_15_1_1_1 (hi : HI) (hl : HL) (Φ : HI → HL → Prop) (eW eb el eu ez : Int32) (h3 : hi 10 3 = 15) (h6 : hi 13 6 = 1) (h7 : hi 13 7 = 1) (h8 : hi 13 8 = 1) (z14 : ∀ j, 1 ≤ j → j < 6 → hl 14 j = 0) (z15 : ∀ j, 1 ≤ j → j < 6 → hl 15 j = 0) (z17 : ∀ j, j < 6 → hl 17 j = 0)
    (h : ∀ hl', (∀ c, (c < 14 ∨ 19 < c) → hl' c = hl c) → (∀ σ, σ < 64 → ∀ j, j < 1 → bt (hl' 17 j) σ = (opM 15 (nI 1) eW eb el eu (nI (lvb (fun j => bt (hl 14 j) σ) 1)) (nI (lvb (fun j => bt (hl 15 j) σ) 1)) ez).toNatClampNeg.testBit j) → Φ hi hl') : wpG_join hi hl Φ := by
  have hv : vp_in (15 : Int32) 31 := vp31 15 (by decide)
  have e : swC (15 : Int32).toNatClampNeg = 30 := by decide
  have e2 : swC 15 = 30 := by decide
  unfold wpG_join wbG_join_0
  rw [h3, e]
  simp (decide := true) only [false_implies, true_implies, and_true, true_and, not_true, not_false_eq_true, hv]
  unfold wpG_reckon wbG_reckon_0
  rw [e]
  simp (decide := true) only [false_implies, true_implies, and_true, true_and, not_true, not_false_eq_true, hv]
  unfold wpG_shiftLeft wbG_shiftLeft_0
  rw [h6]
  refine ⟨by unfold cpIn; decide, ⟨2, ?_⟩⟩
  rw [wbG_shiftLeft_19]
  refine br_f (by rw [h6]; decide) ⟨2, ?_⟩
  simp [wbG_shiftLeft_38, wbG_shiftLeft_70, wpG_choose, wbG_choose_0, h6, u2_ap, cpL_ap, va_cpy, vp_in, shl_0, shl_1, shl_2]
  rw [wbG_shiftLeft_19]
  refine br_t (by rw [h6]; decide) ?_
  refine h _ (fun c hc => ?_) (fun σ hσ j hj => ?_)
  · funext b
    simp only [u2_ap, cpL_ap]
    repeat rw [if_neg (by omega)]
  · have hc : j = 0 := by omega
    subst hc
    · simp (decide := true) only [opM, ↓reduceIte]
      simp [u2_ap, cpL_ap, va_cpy, bt_xor, bt_and, bt_or, bt_0, bt_m1 hσ, bt_cm hσ, lvb, z14 1 (by decide) (by decide), z14 2 (by decide) (by decide), z14 3 (by decide) (by decide), z14 4 (by decide) (by decide), z14 5 (by decide) (by decide), z15 1 (by decide) (by decide), z15 2 (by decide) (by decide), z15 3 (by decide) (by decide), z15 4 (by decide) (by decide), z15 5 (by decide) (by decide), z17 0 (by decide), z17 1 (by decide), z17 2 (by decide), z17 3 (by decide), z17 4 (by decide), z17 5 (by decide)]
      generalize bt (hl 14 0) σ = a0
      generalize bt (hl 15 0) σ = b0
      revert a0 b0
      decide +kernel
theorem jn_16_1_1_1 (hi : HI) (hl : HL) (Φ : HI → HL → Prop) (ew eW eb el eu ez : Int32) (h3 : hi 10 3 = 16) (h6 : hi 13 6 = 1) (h7 : hi 13 7 = 1) (h8 : hi 13 8 = 1) (z14 : ∀ j, 1 ≤ j → j < 6 → hl 14 j = 0) (z15 : ∀ j, 1 ≤ j → j < 6 → hl 15 j = 0) (z17 : ∀ j, j < 6 → hl 17 j = 0)
    (h : ∀ hl', (∀ c, (c < 14 ∨ 19 < c) → hl' c = hl c) → (∀ σ, σ < 64 → ∀ j, j < 1 → bt (hl' 17 j) σ = (opM 16 ew eW eb el eu (nI (lvb (fun j => bt (hl 14 j) σ) 1)) (nI (lvb (fun j => bt (hl 15 j) σ) 1)) ez).toNatClampNeg.testBit j) → Φ hi hl') : wpG_join hi hl Φ := by
  have hv : vp_in (16 : Int32) 31 := vp31 16 (by decide)
  have e : swC (16 : Int32).toNatClampNeg = 0 := by decide
  have e2 : swC 16 = 0 := by decide
  unfold wpG_join wbG_join_0
  rw [h3, e]
  simp (decide := true) only [false_implies, true_implies, and_true, true_and, not_true, not_false_eq_true, hv]
  unfold wpG_reckon wbG_reckon_0
  rw [e]
  simp (decide := true) only [false_implies, true_implies, and_true, true_and, not_true, not_false_eq_true, hv]
  unfold wpG_shiftRight wbG_shiftRight_0
  rw [h6]
  refine ⟨by unfold cpIn; decide, ⟨2, ?_⟩⟩
  rw [wbG_shiftRight_19]
  refine br_f (by rw [h6]; decide) ⟨2, ?_⟩
  simp [wbG_shiftRight_33, wbG_shiftRight_74, wpG_choose, wbG_choose_0, h6, u2_ap, cpL_ap, va_cpy, vp_in, shl_0, shl_1, shl_2]
  rw [wbG_shiftRight_19]
  refine br_t (by rw [h6]; decide) ?_
  refine h _ (fun c hc => ?_) (fun σ hσ j hj => ?_)
  · funext b
    simp only [u2_ap, cpL_ap]
    repeat rw [if_neg (by omega)]
  · have hc : j = 0 := by omega
    subst hc
    · simp (decide := true) only [opM, ↓reduceIte]
      simp [u2_ap, cpL_ap, va_cpy, bt_xor, bt_and, bt_or, bt_0, bt_m1 hσ, bt_cm hσ, lvb, z14 1 (by decide) (by decide), z14 2 (by decide) (by decide), z14 3 (by decide) (by decide), z14 4 (by decide) (by decide), z14 5 (by decide) (by decide), z15 1 (by decide) (by decide), z15 2 (by decide) (by decide), z15 3 (by decide) (by decide), z15 4 (by decide) (by decide), z15 5 (by decide) (by decide), z17 0 (by decide), z17 1 (by decide), z17 2 (by decide), z17 3 (by decide), z17 4 (by decide), z17 5 (by decide)]
      generalize bt (hl 14 0) σ = a0
      generalize bt (hl 15 0) σ = b0
      revert a0 b0
      decide +kernel
theorem jn_15_2_2_2 (hi : HI) (hl : HL) (Φ : HI → HL → Prop) (eW eb el eu ez : Int32) (h3 : hi 10 3 = 15) (h6 : hi 13 6 = 2) (h7 : hi 13 7 = 2) (h8 : hi 13 8 = 2) (z14 : ∀ j, 2 ≤ j → j < 6 → hl 14 j = 0) (z15 : ∀ j, 2 ≤ j → j < 6 → hl 15 j = 0) (z17 : ∀ j, j < 6 → hl 17 j = 0)
    (h : ∀ hl', (∀ c, (c < 14 ∨ 19 < c) → hl' c = hl c) → (∀ σ, σ < 64 → ∀ j, j < 2 → bt (hl' 17 j) σ = (opM 15 (nI 2) eW eb el eu (nI (lvb (fun j => bt (hl 14 j) σ) 2)) (nI (lvb (fun j => bt (hl 15 j) σ) 2)) ez).toNatClampNeg.testBit j) → Φ hi hl') : wpG_join hi hl Φ := by
  have hv : vp_in (15 : Int32) 31 := vp31 15 (by decide)
  have e : swC (15 : Int32).toNatClampNeg = 30 := by decide
  have e2 : swC 15 = 30 := by decide
  unfold wpG_join wbG_join_0
  rw [h3, e]
  simp (decide := true) only [false_implies, true_implies, and_true, true_and, not_true, not_false_eq_true, hv]
  unfold wpG_reckon wbG_reckon_0
  rw [e]
  simp (decide := true) only [false_implies, true_implies, and_true, true_and, not_true, not_false_eq_true, hv]
  unfold wpG_shiftLeft wbG_shiftLeft_0
  rw [h6]
  refine ⟨by unfold cpIn; decide, ⟨3, ?_⟩⟩
  rw [wbG_shiftLeft_19]
  refine br_f (by rw [h6]; decide) ⟨3, ?_⟩
  simp [wbG_shiftLeft_38, wbG_shiftLeft_70, wpG_choose, wbG_choose_0, h6, u2_ap, cpL_ap, va_cpy, vp_in, shl_0, shl_1, shl_2]
  rw [wbG_shiftLeft_19]
  refine br_f (by rw [h6]; decide) ⟨3, ?_⟩
  simp [wbG_shiftLeft_38, wbG_shiftLeft_70, wpG_choose, wbG_choose_0, h6, u2_ap, cpL_ap, va_cpy, vp_in, shl_0, shl_1, shl_2]
  rw [wbG_shiftLeft_19]
  refine br_t (by rw [h6]; decide) ?_
  refine h _ (fun c hc => ?_) (fun σ hσ j hj => ?_)
  · funext b
    simp only [u2_ap, cpL_ap]
    repeat rw [if_neg (by omega)]
  · have hc : j = 0 ∨ j = 1 := by omega
    rcases hc with rfl | rfl
    · simp (decide := true) only [opM, ↓reduceIte]
      simp [u2_ap, cpL_ap, va_cpy, bt_xor, bt_and, bt_or, bt_0, bt_m1 hσ, bt_cm hσ, lvb, z14 2 (by decide) (by decide), z14 3 (by decide) (by decide), z14 4 (by decide) (by decide), z14 5 (by decide) (by decide), z15 2 (by decide) (by decide), z15 3 (by decide) (by decide), z15 4 (by decide) (by decide), z15 5 (by decide) (by decide), z17 0 (by decide), z17 1 (by decide), z17 2 (by decide), z17 3 (by decide), z17 4 (by decide), z17 5 (by decide)]
      generalize bt (hl 14 0) σ = a0
      generalize bt (hl 14 1) σ = a1
      generalize bt (hl 15 0) σ = b0
      generalize bt (hl 15 1) σ = b1
      revert a0 a1 b0 b1
      decide +kernel
    · simp (decide := true) only [opM, ↓reduceIte]
      simp [u2_ap, cpL_ap, va_cpy, bt_xor, bt_and, bt_or, bt_0, bt_m1 hσ, bt_cm hσ, lvb, z14 2 (by decide) (by decide), z14 3 (by decide) (by decide), z14 4 (by decide) (by decide), z14 5 (by decide) (by decide), z15 2 (by decide) (by decide), z15 3 (by decide) (by decide), z15 4 (by decide) (by decide), z15 5 (by decide) (by decide), z17 0 (by decide), z17 1 (by decide), z17 2 (by decide), z17 3 (by decide), z17 4 (by decide), z17 5 (by decide)]
      generalize bt (hl 14 0) σ = a0
      generalize bt (hl 14 1) σ = a1
      generalize bt (hl 15 0) σ = b0
      generalize bt (hl 15 1) σ = b1
      revert a0 a1 b0 b1
      decide +kernel
theorem jn_16_2_2_2 (hi : HI) (hl : HL) (Φ : HI → HL → Prop) (ew eW eb el eu ez : Int32) (h3 : hi 10 3 = 16) (h6 : hi 13 6 = 2) (h7 : hi 13 7 = 2) (h8 : hi 13 8 = 2) (z14 : ∀ j, 2 ≤ j → j < 6 → hl 14 j = 0) (z15 : ∀ j, 2 ≤ j → j < 6 → hl 15 j = 0) (z17 : ∀ j, j < 6 → hl 17 j = 0)
    (h : ∀ hl', (∀ c, (c < 14 ∨ 19 < c) → hl' c = hl c) → (∀ σ, σ < 64 → ∀ j, j < 2 → bt (hl' 17 j) σ = (opM 16 ew eW eb el eu (nI (lvb (fun j => bt (hl 14 j) σ) 2)) (nI (lvb (fun j => bt (hl 15 j) σ) 2)) ez).toNatClampNeg.testBit j) → Φ hi hl') : wpG_join hi hl Φ := by
  have hv : vp_in (16 : Int32) 31 := vp31 16 (by decide)
  have e : swC (16 : Int32).toNatClampNeg = 0 := by decide
  have e2 : swC 16 = 0 := by decide
  unfold wpG_join wbG_join_0
  rw [h3, e]
  simp (decide := true) only [false_implies, true_implies, and_true, true_and, not_true, not_false_eq_true, hv]
  unfold wpG_reckon wbG_reckon_0
  rw [e]
  simp (decide := true) only [false_implies, true_implies, and_true, true_and, not_true, not_false_eq_true, hv]
  unfold wpG_shiftRight wbG_shiftRight_0
  rw [h6]
  refine ⟨by unfold cpIn; decide, ⟨3, ?_⟩⟩
  rw [wbG_shiftRight_19]
  refine br_f (by rw [h6]; decide) ⟨3, ?_⟩
  simp [wbG_shiftRight_33, wbG_shiftRight_74, wpG_choose, wbG_choose_0, h6, u2_ap, cpL_ap, va_cpy, vp_in, shl_0, shl_1, shl_2]
  rw [wbG_shiftRight_19]
  refine br_f (by rw [h6]; decide) ⟨3, ?_⟩
  simp [wbG_shiftRight_33, wbG_shiftRight_74, wpG_choose, wbG_choose_0, h6, u2_ap, cpL_ap, va_cpy, vp_in, shl_0, shl_1, shl_2]
  rw [wbG_shiftRight_19]
  refine br_t (by rw [h6]; decide) ?_
  refine h _ (fun c hc => ?_) (fun σ hσ j hj => ?_)
  · funext b
    simp only [u2_ap, cpL_ap]
    repeat rw [if_neg (by omega)]
  · have hc : j = 0 ∨ j = 1 := by omega
    rcases hc with rfl | rfl
    · simp (decide := true) only [opM, ↓reduceIte]
      simp [u2_ap, cpL_ap, va_cpy, bt_xor, bt_and, bt_or, bt_0, bt_m1 hσ, bt_cm hσ, lvb, z14 2 (by decide) (by decide), z14 3 (by decide) (by decide), z14 4 (by decide) (by decide), z14 5 (by decide) (by decide), z15 2 (by decide) (by decide), z15 3 (by decide) (by decide), z15 4 (by decide) (by decide), z15 5 (by decide) (by decide), z17 0 (by decide), z17 1 (by decide), z17 2 (by decide), z17 3 (by decide), z17 4 (by decide), z17 5 (by decide)]
      generalize bt (hl 14 0) σ = a0
      generalize bt (hl 14 1) σ = a1
      generalize bt (hl 15 0) σ = b0
      generalize bt (hl 15 1) σ = b1
      revert a0 a1 b0 b1
      decide +kernel
    · simp (decide := true) only [opM, ↓reduceIte]
      simp [u2_ap, cpL_ap, va_cpy, bt_xor, bt_and, bt_or, bt_0, bt_m1 hσ, bt_cm hσ, lvb, z14 2 (by decide) (by decide), z14 3 (by decide) (by decide), z14 4 (by decide) (by decide), z14 5 (by decide) (by decide), z15 2 (by decide) (by decide), z15 3 (by decide) (by decide), z15 4 (by decide) (by decide), z15 5 (by decide) (by decide), z17 0 (by decide), z17 1 (by decide), z17 2 (by decide), z17 3 (by decide), z17 4 (by decide), z17 5 (by decide)]
      generalize bt (hl 14 0) σ = a0
      generalize bt (hl 14 1) σ = a1
      generalize bt (hl 15 0) σ = b0
      generalize bt (hl 15 1) σ = b1
      revert a0 a1 b0 b1
      decide +kernel
theorem jn_15_3_3_3 (hi : HI) (hl : HL) (Φ : HI → HL → Prop) (eW eb el eu ez : Int32) (h3 : hi 10 3 = 15) (h6 : hi 13 6 = 3) (h7 : hi 13 7 = 3) (h8 : hi 13 8 = 3) (z14 : ∀ j, 3 ≤ j → j < 6 → hl 14 j = 0) (z15 : ∀ j, 3 ≤ j → j < 6 → hl 15 j = 0) (z17 : ∀ j, j < 6 → hl 17 j = 0)
    (h : ∀ hl', (∀ c, (c < 14 ∨ 19 < c) → hl' c = hl c) → (∀ σ, σ < 64 → ∀ j, j < 3 → bt (hl' 17 j) σ = (opM 15 (nI 3) eW eb el eu (nI (lvb (fun j => bt (hl 14 j) σ) 3)) (nI (lvb (fun j => bt (hl 15 j) σ) 3)) ez).toNatClampNeg.testBit j) → Φ hi hl') : wpG_join hi hl Φ := by
  have hv : vp_in (15 : Int32) 31 := vp31 15 (by decide)
  have e : swC (15 : Int32).toNatClampNeg = 30 := by decide
  have e2 : swC 15 = 30 := by decide
  unfold wpG_join wbG_join_0
  rw [h3, e]
  simp (decide := true) only [false_implies, true_implies, and_true, true_and, not_true, not_false_eq_true, hv]
  unfold wpG_reckon wbG_reckon_0
  rw [e]
  simp (decide := true) only [false_implies, true_implies, and_true, true_and, not_true, not_false_eq_true, hv]
  unfold wpG_shiftLeft wbG_shiftLeft_0
  rw [h6]
  refine ⟨by unfold cpIn; decide, ⟨4, ?_⟩⟩
  rw [wbG_shiftLeft_19]
  refine br_f (by rw [h6]; decide) ⟨4, ?_⟩
  simp [wbG_shiftLeft_38, wbG_shiftLeft_70, wpG_choose, wbG_choose_0, h6, u2_ap, cpL_ap, va_cpy, vp_in, shl_0, shl_1, shl_2]
  rw [wbG_shiftLeft_19]
  refine br_f (by rw [h6]; decide) ⟨4, ?_⟩
  simp [wbG_shiftLeft_38, wbG_shiftLeft_70, wpG_choose, wbG_choose_0, h6, u2_ap, cpL_ap, va_cpy, vp_in, shl_0, shl_1, shl_2]
  rw [wbG_shiftLeft_19]
  refine br_f (by rw [h6]; decide) ⟨4, ?_⟩
  simp [wbG_shiftLeft_38, wbG_shiftLeft_70, wpG_choose, wbG_choose_0, h6, u2_ap, cpL_ap, va_cpy, vp_in, shl_0, shl_1, shl_2]
  rw [wbG_shiftLeft_19]
  refine br_t (by rw [h6]; decide) ?_
  refine h _ (fun c hc => ?_) (fun σ hσ j hj => ?_)
  · funext b
    simp only [u2_ap, cpL_ap]
    repeat rw [if_neg (by omega)]
  · have hc : j = 0 ∨ j = 1 ∨ j = 2 := by omega
    rcases hc with rfl | rfl | rfl
    · simp (decide := true) only [opM, ↓reduceIte]
      simp [u2_ap, cpL_ap, va_cpy, bt_xor, bt_and, bt_or, bt_0, bt_m1 hσ, bt_cm hσ, lvb, z14 3 (by decide) (by decide), z14 4 (by decide) (by decide), z14 5 (by decide) (by decide), z15 3 (by decide) (by decide), z15 4 (by decide) (by decide), z15 5 (by decide) (by decide), z17 0 (by decide), z17 1 (by decide), z17 2 (by decide), z17 3 (by decide), z17 4 (by decide), z17 5 (by decide)]
      generalize bt (hl 14 0) σ = a0
      generalize bt (hl 14 1) σ = a1
      generalize bt (hl 14 2) σ = a2
      generalize bt (hl 15 0) σ = b0
      generalize bt (hl 15 1) σ = b1
      generalize bt (hl 15 2) σ = b2
      revert a0 a1 a2 b0 b1 b2
      decide +kernel
    · simp (decide := true) only [opM, ↓reduceIte]
      simp [u2_ap, cpL_ap, va_cpy, bt_xor, bt_and, bt_or, bt_0, bt_m1 hσ, bt_cm hσ, lvb, z14 3 (by decide) (by decide), z14 4 (by decide) (by decide), z14 5 (by decide) (by decide), z15 3 (by decide) (by decide), z15 4 (by decide) (by decide), z15 5 (by decide) (by decide), z17 0 (by decide), z17 1 (by decide), z17 2 (by decide), z17 3 (by decide), z17 4 (by decide), z17 5 (by decide)]
      generalize bt (hl 14 0) σ = a0
      generalize bt (hl 14 1) σ = a1
      generalize bt (hl 14 2) σ = a2
      generalize bt (hl 15 0) σ = b0
      generalize bt (hl 15 1) σ = b1
      generalize bt (hl 15 2) σ = b2
      revert a0 a1 a2 b0 b1 b2
      decide +kernel
    · simp (decide := true) only [opM, ↓reduceIte]
      simp [u2_ap, cpL_ap, va_cpy, bt_xor, bt_and, bt_or, bt_0, bt_m1 hσ, bt_cm hσ, lvb, z14 3 (by decide) (by decide), z14 4 (by decide) (by decide), z14 5 (by decide) (by decide), z15 3 (by decide) (by decide), z15 4 (by decide) (by decide), z15 5 (by decide) (by decide), z17 0 (by decide), z17 1 (by decide), z17 2 (by decide), z17 3 (by decide), z17 4 (by decide), z17 5 (by decide)]
      generalize bt (hl 14 0) σ = a0
      generalize bt (hl 14 1) σ = a1
      generalize bt (hl 14 2) σ = a2
      generalize bt (hl 15 0) σ = b0
      generalize bt (hl 15 1) σ = b1
      generalize bt (hl 15 2) σ = b2
      revert a0 a1 a2 b0 b1 b2
      decide +kernel
theorem jn_16_3_3_3 (hi : HI) (hl : HL) (Φ : HI → HL → Prop) (ew eW eb el eu ez : Int32) (h3 : hi 10 3 = 16) (h6 : hi 13 6 = 3) (h7 : hi 13 7 = 3) (h8 : hi 13 8 = 3) (z14 : ∀ j, 3 ≤ j → j < 6 → hl 14 j = 0) (z15 : ∀ j, 3 ≤ j → j < 6 → hl 15 j = 0) (z17 : ∀ j, j < 6 → hl 17 j = 0)
    (h : ∀ hl', (∀ c, (c < 14 ∨ 19 < c) → hl' c = hl c) → (∀ σ, σ < 64 → ∀ j, j < 3 → bt (hl' 17 j) σ = (opM 16 ew eW eb el eu (nI (lvb (fun j => bt (hl 14 j) σ) 3)) (nI (lvb (fun j => bt (hl 15 j) σ) 3)) ez).toNatClampNeg.testBit j) → Φ hi hl') : wpG_join hi hl Φ := by
  have hv : vp_in (16 : Int32) 31 := vp31 16 (by decide)
  have e : swC (16 : Int32).toNatClampNeg = 0 := by decide
  have e2 : swC 16 = 0 := by decide
  unfold wpG_join wbG_join_0
  rw [h3, e]
  simp (decide := true) only [false_implies, true_implies, and_true, true_and, not_true, not_false_eq_true, hv]
  unfold wpG_reckon wbG_reckon_0
  rw [e]
  simp (decide := true) only [false_implies, true_implies, and_true, true_and, not_true, not_false_eq_true, hv]
  unfold wpG_shiftRight wbG_shiftRight_0
  rw [h6]
  refine ⟨by unfold cpIn; decide, ⟨4, ?_⟩⟩
  rw [wbG_shiftRight_19]
  refine br_f (by rw [h6]; decide) ⟨4, ?_⟩
  simp [wbG_shiftRight_33, wbG_shiftRight_74, wpG_choose, wbG_choose_0, h6, u2_ap, cpL_ap, va_cpy, vp_in, shl_0, shl_1, shl_2]
  rw [wbG_shiftRight_19]
  refine br_f (by rw [h6]; decide) ⟨4, ?_⟩
  simp [wbG_shiftRight_33, wbG_shiftRight_74, wpG_choose, wbG_choose_0, h6, u2_ap, cpL_ap, va_cpy, vp_in, shl_0, shl_1, shl_2]
  rw [wbG_shiftRight_19]
  refine br_f (by rw [h6]; decide) ⟨4, ?_⟩
  simp [wbG_shiftRight_33, wbG_shiftRight_74, wpG_choose, wbG_choose_0, h6, u2_ap, cpL_ap, va_cpy, vp_in, shl_0, shl_1, shl_2]
  rw [wbG_shiftRight_19]
  refine br_t (by rw [h6]; decide) ?_
  refine h _ (fun c hc => ?_) (fun σ hσ j hj => ?_)
  · funext b
    simp only [u2_ap, cpL_ap]
    repeat rw [if_neg (by omega)]
  · have hc : j = 0 ∨ j = 1 ∨ j = 2 := by omega
    rcases hc with rfl | rfl | rfl
    · simp (decide := true) only [opM, ↓reduceIte]
      simp [u2_ap, cpL_ap, va_cpy, bt_xor, bt_and, bt_or, bt_0, bt_m1 hσ, bt_cm hσ, lvb, z14 3 (by decide) (by decide), z14 4 (by decide) (by decide), z14 5 (by decide) (by decide), z15 3 (by decide) (by decide), z15 4 (by decide) (by decide), z15 5 (by decide) (by decide), z17 0 (by decide), z17 1 (by decide), z17 2 (by decide), z17 3 (by decide), z17 4 (by decide), z17 5 (by decide)]
      generalize bt (hl 14 0) σ = a0
      generalize bt (hl 14 1) σ = a1
      generalize bt (hl 14 2) σ = a2
      generalize bt (hl 15 0) σ = b0
      generalize bt (hl 15 1) σ = b1
      generalize bt (hl 15 2) σ = b2
      revert a0 a1 a2 b0 b1 b2
      decide +kernel
    · simp (decide := true) only [opM, ↓reduceIte]
      simp [u2_ap, cpL_ap, va_cpy, bt_xor, bt_and, bt_or, bt_0, bt_m1 hσ, bt_cm hσ, lvb, z14 3 (by decide) (by decide), z14 4 (by decide) (by decide), z14 5 (by decide) (by decide), z15 3 (by decide) (by decide), z15 4 (by decide) (by decide), z15 5 (by decide) (by decide), z17 0 (by decide), z17 1 (by decide), z17 2 (by decide), z17 3 (by decide), z17 4 (by decide), z17 5 (by decide)]
      generalize bt (hl 14 0) σ = a0
      generalize bt (hl 14 1) σ = a1
      generalize bt (hl 14 2) σ = a2
      generalize bt (hl 15 0) σ = b0
      generalize bt (hl 15 1) σ = b1
      generalize bt (hl 15 2) σ = b2
      revert a0 a1 a2 b0 b1 b2
      decide +kernel
    · simp (decide := true) only [opM, ↓reduceIte]
      simp [u2_ap, cpL_ap, va_cpy, bt_xor, bt_and, bt_or, bt_0, bt_m1 hσ, bt_cm hσ, lvb, z14 3 (by decide) (by decide), z14 4 (by decide) (by decide), z14 5 (by decide) (by decide), z15 3 (by decide) (by decide), z15 4 (by decide) (by decide), z15 5 (by decide) (by decide), z17 0 (by decide), z17 1 (by decide), z17 2 (by decide), z17 3 (by decide), z17 4 (by decide), z17 5 (by decide)]
      generalize bt (hl 14 0) σ = a0
      generalize bt (hl 14 1) σ = a1
      generalize bt (hl 14 2) σ = a2
      generalize bt (hl 15 0) σ = b0
      generalize bt (hl 15 1) σ = b1
      generalize bt (hl 15 2) σ = b2
      revert a0 a1 a2 b0 b1 b2
      decide +kernel
theorem jn_20_2_1_1 (hi : HI) (hl : HL) (Φ : HI → HL → Prop) (ew eW el eu ez : Int32) (h3 : hi 10 3 = 20) (h6 : hi 13 6 = 2) (h7 : hi 13 7 = 1) (h8 : hi 13 8 = 1) (z14 : ∀ j, 1 ≤ j → j < 6 → hl 14 j = 0) (z15 : ∀ j, 1 ≤ j → j < 6 → hl 15 j = 0) (z17 : ∀ j, j < 6 → hl 17 j = 0)
    (h : ∀ hl', (∀ c, (c < 14 ∨ 19 < c) → hl' c = hl c) → (∀ σ, σ < 64 → ∀ j, j < 2 → bt (hl' 17 j) σ = (opM 20 ew eW (nI 1) el eu (nI (lvb (fun j => bt (hl 14 j) σ) 1)) (nI (lvb (fun j => bt (hl 15 j) σ) 1)) ez).toNatClampNeg.testBit j) → Φ hi hl') : wpG_join hi hl Φ := by
  have hv : vp_in (20 : Int32) 31 := vp31 20 (by decide)
  have e : swC (20 : Int32).toNatClampNeg = 19 := by decide
  have e2 : swC 20 = 19 := by decide
  unfold wpG_join wbG_join_0
  rw [h3, e]
  simp (decide := true) only [false_implies, true_implies, and_true, true_and, not_true, not_false_eq_true, hv]
  unfold wpG_arrange wbG_arrange_0
  refine ⟨by decide, ⟨3, ?_⟩⟩
  simp [wbG_arrange_9, wbG_arrange_93, wbG_arrange_138, wbG_arrange_118, wbG_arrange_234, wbG_arrange_250, wpG_choose, wbG_choose_0, hv, e2, h6, h7, h8, u2_ap, vp_in]
  refine h _ (fun c hc => ?_) (fun σ hσ j hj => ?_)
  · funext b
    simp only [u2_ap, cpL_ap]
    repeat rw [if_neg (by omega)]
  · have hc : j = 0 ∨ j = 1 := by omega
    rcases hc with rfl | rfl
    · simp (decide := true) only [opM, ↓reduceIte]
      simp [u2_ap, cpL_ap, va_cpy, bt_xor, bt_and, bt_or, bt_0, bt_m1 hσ, bt_cm hσ, lvb, z14 1 (by decide) (by decide), z14 2 (by decide) (by decide), z14 3 (by decide) (by decide), z14 4 (by decide) (by decide), z14 5 (by decide) (by decide), z15 1 (by decide) (by decide), z15 2 (by decide) (by decide), z15 3 (by decide) (by decide), z15 4 (by decide) (by decide), z15 5 (by decide) (by decide), z17 0 (by decide), z17 1 (by decide), z17 2 (by decide), z17 3 (by decide), z17 4 (by decide), z17 5 (by decide)]
      generalize bt (hl 14 0) σ = a0
      generalize bt (hl 15 0) σ = b0
      revert a0 b0
      decide +kernel
    · simp (decide := true) only [opM, ↓reduceIte]
      simp [u2_ap, cpL_ap, va_cpy, bt_xor, bt_and, bt_or, bt_0, bt_m1 hσ, bt_cm hσ, lvb, z14 1 (by decide) (by decide), z14 2 (by decide) (by decide), z14 3 (by decide) (by decide), z14 4 (by decide) (by decide), z14 5 (by decide) (by decide), z15 1 (by decide) (by decide), z15 2 (by decide) (by decide), z15 3 (by decide) (by decide), z15 4 (by decide) (by decide), z15 5 (by decide) (by decide), z17 0 (by decide), z17 1 (by decide), z17 2 (by decide), z17 3 (by decide), z17 4 (by decide), z17 5 (by decide)]
      generalize bt (hl 14 0) σ = a0
      generalize bt (hl 15 0) σ = b0
      revert a0 b0
      decide +kernel
theorem jn_20_3_1_2 (hi : HI) (hl : HL) (Φ : HI → HL → Prop) (ew eW el eu ez : Int32) (h3 : hi 10 3 = 20) (h6 : hi 13 6 = 3) (h7 : hi 13 7 = 1) (h8 : hi 13 8 = 2) (z14 : ∀ j, 1 ≤ j → j < 6 → hl 14 j = 0) (z15 : ∀ j, 2 ≤ j → j < 6 → hl 15 j = 0) (z17 : ∀ j, j < 6 → hl 17 j = 0)
    (h : ∀ hl', (∀ c, (c < 14 ∨ 19 < c) → hl' c = hl c) → (∀ σ, σ < 64 → ∀ j, j < 3 → bt (hl' 17 j) σ = (opM 20 ew eW (nI 2) el eu (nI (lvb (fun j => bt (hl 14 j) σ) 1)) (nI (lvb (fun j => bt (hl 15 j) σ) 2)) ez).toNatClampNeg.testBit j) → Φ hi hl') : wpG_join hi hl Φ := by
  have hv : vp_in (20 : Int32) 31 := vp31 20 (by decide)
  have e : swC (20 : Int32).toNatClampNeg = 19 := by decide
  have e2 : swC 20 = 19 := by decide
  unfold wpG_join wbG_join_0
  rw [h3, e]
  simp (decide := true) only [false_implies, true_implies, and_true, true_and, not_true, not_false_eq_true, hv]
  unfold wpG_arrange wbG_arrange_0
  refine ⟨by decide, ⟨4, ?_⟩⟩
  simp [wbG_arrange_9, wbG_arrange_93, wbG_arrange_138, wbG_arrange_118, wbG_arrange_234, wbG_arrange_250, wpG_choose, wbG_choose_0, hv, e2, h6, h7, h8, u2_ap, vp_in]
  refine h _ (fun c hc => ?_) (fun σ hσ j hj => ?_)
  · funext b
    simp only [u2_ap, cpL_ap]
    repeat rw [if_neg (by omega)]
  · have hc : j = 0 ∨ j = 1 ∨ j = 2 := by omega
    rcases hc with rfl | rfl | rfl
    · simp (decide := true) only [opM, ↓reduceIte]
      simp [u2_ap, cpL_ap, va_cpy, bt_xor, bt_and, bt_or, bt_0, bt_m1 hσ, bt_cm hσ, lvb, z14 1 (by decide) (by decide), z14 2 (by decide) (by decide), z14 3 (by decide) (by decide), z14 4 (by decide) (by decide), z14 5 (by decide) (by decide), z15 2 (by decide) (by decide), z15 3 (by decide) (by decide), z15 4 (by decide) (by decide), z15 5 (by decide) (by decide), z17 0 (by decide), z17 1 (by decide), z17 2 (by decide), z17 3 (by decide), z17 4 (by decide), z17 5 (by decide)]
      generalize bt (hl 14 0) σ = a0
      generalize bt (hl 15 0) σ = b0
      generalize bt (hl 15 1) σ = b1
      revert a0 b0 b1
      decide +kernel
    · simp (decide := true) only [opM, ↓reduceIte]
      simp [u2_ap, cpL_ap, va_cpy, bt_xor, bt_and, bt_or, bt_0, bt_m1 hσ, bt_cm hσ, lvb, z14 1 (by decide) (by decide), z14 2 (by decide) (by decide), z14 3 (by decide) (by decide), z14 4 (by decide) (by decide), z14 5 (by decide) (by decide), z15 2 (by decide) (by decide), z15 3 (by decide) (by decide), z15 4 (by decide) (by decide), z15 5 (by decide) (by decide), z17 0 (by decide), z17 1 (by decide), z17 2 (by decide), z17 3 (by decide), z17 4 (by decide), z17 5 (by decide)]
      generalize bt (hl 14 0) σ = a0
      generalize bt (hl 15 0) σ = b0
      generalize bt (hl 15 1) σ = b1
      revert a0 b0 b1
      decide +kernel
    · simp (decide := true) only [opM, ↓reduceIte]
      simp [u2_ap, cpL_ap, va_cpy, bt_xor, bt_and, bt_or, bt_0, bt_m1 hσ, bt_cm hσ, lvb, z14 1 (by decide) (by decide), z14 2 (by decide) (by decide), z14 3 (by decide) (by decide), z14 4 (by decide) (by decide), z14 5 (by decide) (by decide), z15 2 (by decide) (by decide), z15 3 (by decide) (by decide), z15 4 (by decide) (by decide), z15 5 (by decide) (by decide), z17 0 (by decide), z17 1 (by decide), z17 2 (by decide), z17 3 (by decide), z17 4 (by decide), z17 5 (by decide)]
      generalize bt (hl 14 0) σ = a0
      generalize bt (hl 15 0) σ = b0
      generalize bt (hl 15 1) σ = b1
      revert a0 b0 b1
      decide +kernel
theorem jn_20_3_2_1 (hi : HI) (hl : HL) (Φ : HI → HL → Prop) (ew eW el eu ez : Int32) (h3 : hi 10 3 = 20) (h6 : hi 13 6 = 3) (h7 : hi 13 7 = 2) (h8 : hi 13 8 = 1) (z14 : ∀ j, 2 ≤ j → j < 6 → hl 14 j = 0) (z15 : ∀ j, 1 ≤ j → j < 6 → hl 15 j = 0) (z17 : ∀ j, j < 6 → hl 17 j = 0)
    (h : ∀ hl', (∀ c, (c < 14 ∨ 19 < c) → hl' c = hl c) → (∀ σ, σ < 64 → ∀ j, j < 3 → bt (hl' 17 j) σ = (opM 20 ew eW (nI 1) el eu (nI (lvb (fun j => bt (hl 14 j) σ) 2)) (nI (lvb (fun j => bt (hl 15 j) σ) 1)) ez).toNatClampNeg.testBit j) → Φ hi hl') : wpG_join hi hl Φ := by
  have hv : vp_in (20 : Int32) 31 := vp31 20 (by decide)
  have e : swC (20 : Int32).toNatClampNeg = 19 := by decide
  have e2 : swC 20 = 19 := by decide
  unfold wpG_join wbG_join_0
  rw [h3, e]
  simp (decide := true) only [false_implies, true_implies, and_true, true_and, not_true, not_false_eq_true, hv]
  unfold wpG_arrange wbG_arrange_0
  refine ⟨by decide, ⟨4, ?_⟩⟩
  simp [wbG_arrange_9, wbG_arrange_93, wbG_arrange_138, wbG_arrange_118, wbG_arrange_234, wbG_arrange_250, wpG_choose, wbG_choose_0, hv, e2, h6, h7, h8, u2_ap, vp_in]
  refine h _ (fun c hc => ?_) (fun σ hσ j hj => ?_)
  · funext b
    simp only [u2_ap, cpL_ap]
    repeat rw [if_neg (by omega)]
  · have hc : j = 0 ∨ j = 1 ∨ j = 2 := by omega
    rcases hc with rfl | rfl | rfl
    · simp (decide := true) only [opM, ↓reduceIte]
      simp [u2_ap, cpL_ap, va_cpy, bt_xor, bt_and, bt_or, bt_0, bt_m1 hσ, bt_cm hσ, lvb, z14 2 (by decide) (by decide), z14 3 (by decide) (by decide), z14 4 (by decide) (by decide), z14 5 (by decide) (by decide), z15 1 (by decide) (by decide), z15 2 (by decide) (by decide), z15 3 (by decide) (by decide), z15 4 (by decide) (by decide), z15 5 (by decide) (by decide), z17 0 (by decide), z17 1 (by decide), z17 2 (by decide), z17 3 (by decide), z17 4 (by decide), z17 5 (by decide)]
      generalize bt (hl 14 0) σ = a0
      generalize bt (hl 14 1) σ = a1
      generalize bt (hl 15 0) σ = b0
      revert a0 a1 b0
      decide +kernel
    · simp (decide := true) only [opM, ↓reduceIte]
      simp [u2_ap, cpL_ap, va_cpy, bt_xor, bt_and, bt_or, bt_0, bt_m1 hσ, bt_cm hσ, lvb, z14 2 (by decide) (by decide), z14 3 (by decide) (by decide), z14 4 (by decide) (by decide), z14 5 (by decide) (by decide), z15 1 (by decide) (by decide), z15 2 (by decide) (by decide), z15 3 (by decide) (by decide), z15 4 (by decide) (by decide), z15 5 (by decide) (by decide), z17 0 (by decide), z17 1 (by decide), z17 2 (by decide), z17 3 (by decide), z17 4 (by decide), z17 5 (by decide)]
      generalize bt (hl 14 0) σ = a0
      generalize bt (hl 14 1) σ = a1
      generalize bt (hl 15 0) σ = b0
      revert a0 a1 b0
      decide +kernel
    · simp (decide := true) only [opM, ↓reduceIte]
      simp [u2_ap, cpL_ap, va_cpy, bt_xor, bt_and, bt_or, bt_0, bt_m1 hσ, bt_cm hσ, lvb, z14 2 (by decide) (by decide), z14 3 (by decide) (by decide), z14 4 (by decide) (by decide), z14 5 (by decide) (by decide), z15 1 (by decide) (by decide), z15 2 (by decide) (by decide), z15 3 (by decide) (by decide), z15 4 (by decide) (by decide), z15 5 (by decide) (by decide), z17 0 (by decide), z17 1 (by decide), z17 2 (by decide), z17 3 (by decide), z17 4 (by decide), z17 5 (by decide)]
      generalize bt (hl 14 0) σ = a0
      generalize bt (hl 14 1) σ = a1
      generalize bt (hl 15 0) σ = b0
      revert a0 a1 b0
      decide +kernel
theorem jn_21_1_1_0_0 (hi : HI) (hl : HL) (Φ : HI → HL → Prop) (eW eb eu ey ez : Int32) (h3 : hi 10 3 = 21) (h6 : hi 13 6 = 1) (h7 : hi 13 7 = 1) (h8 : hi 13 8 = 0) (h9 : hi 10 9 = 0) (z14 : ∀ j, 1 ≤ j → j < 6 → hl 14 j = 0) (z15 : ∀ j, 0 ≤ j → j < 6 → hl 15 j = 0) (z17 : ∀ j, j < 6 → hl 17 j = 0)
    (h : ∀ hl', (∀ c, (c < 14 ∨ 19 < c) → hl' c = hl c) → (∀ σ, σ < 64 → ∀ j, j < 1 → bt (hl' 17 j) σ = (opM 21 (nI 1) eW eb (nI 0) eu (nI (lvb (fun j => bt (hl 14 j) σ) 1)) ey ez).toNatClampNeg.testBit j) → Φ hi hl') : wpG_join hi hl Φ := by
  have hv : vp_in (21 : Int32) 31 := vp31 21 (by decide)
  have e : swC (21 : Int32).toNatClampNeg = 9 := by decide
  have e2 : swC 21 = 9 := by decide
  unfold wpG_join wbG_join_0
  rw [h3, e]
  simp (decide := true) only [false_implies, true_implies, and_true, true_and, not_true, not_false_eq_true, hv]
  unfold wpG_cut wbG_cut_0
  refine ⟨2, ?_⟩
  simp [wbG_cut_2, h6, h7, h8, h9, u2_ap, vp_in]
  refine h _ (fun c hc => ?_) (fun σ hσ j hj => ?_)
  · funext b
    simp only [u2_ap, cpL_ap]
    repeat rw [if_neg (by omega)]
  · have hc : j = 0 := by omega
    subst hc
    · simp (decide := true) only [opM, ↓reduceIte]
      simp [u2_ap, cpL_ap, va_cpy, bt_xor, bt_and, bt_or, bt_0, bt_m1 hσ, bt_cm hσ, lvb, z14 1 (by decide) (by decide), z14 2 (by decide) (by decide), z14 3 (by decide) (by decide), z14 4 (by decide) (by decide), z14 5 (by decide) (by decide), z15 0 (by decide) (by decide), z15 1 (by decide) (by decide), z15 2 (by decide) (by decide), z15 3 (by decide) (by decide), z15 4 (by decide) (by decide), z15 5 (by decide) (by decide), z17 0 (by decide), z17 1 (by decide), z17 2 (by decide), z17 3 (by decide), z17 4 (by decide), z17 5 (by decide)]
      generalize bt (hl 14 0) σ = a0
      revert a0
      decide +kernel
theorem jn_21_1_2_0_0 (hi : HI) (hl : HL) (Φ : HI → HL → Prop) (eW eb eu ey ez : Int32) (h3 : hi 10 3 = 21) (h6 : hi 13 6 = 1) (h7 : hi 13 7 = 2) (h8 : hi 13 8 = 0) (h9 : hi 10 9 = 0) (z14 : ∀ j, 2 ≤ j → j < 6 → hl 14 j = 0) (z15 : ∀ j, 0 ≤ j → j < 6 → hl 15 j = 0) (z17 : ∀ j, j < 6 → hl 17 j = 0)
    (h : ∀ hl', (∀ c, (c < 14 ∨ 19 < c) → hl' c = hl c) → (∀ σ, σ < 64 → ∀ j, j < 1 → bt (hl' 17 j) σ = (opM 21 (nI 1) eW eb (nI 0) eu (nI (lvb (fun j => bt (hl 14 j) σ) 2)) ey ez).toNatClampNeg.testBit j) → Φ hi hl') : wpG_join hi hl Φ := by
  have hv : vp_in (21 : Int32) 31 := vp31 21 (by decide)
  have e : swC (21 : Int32).toNatClampNeg = 9 := by decide
  have e2 : swC 21 = 9 := by decide
  unfold wpG_join wbG_join_0
  rw [h3, e]
  simp (decide := true) only [false_implies, true_implies, and_true, true_and, not_true, not_false_eq_true, hv]
  unfold wpG_cut wbG_cut_0
  refine ⟨2, ?_⟩
  simp [wbG_cut_2, h6, h7, h8, h9, u2_ap, vp_in]
  refine h _ (fun c hc => ?_) (fun σ hσ j hj => ?_)
  · funext b
    simp only [u2_ap, cpL_ap]
    repeat rw [if_neg (by omega)]
  · have hc : j = 0 := by omega
    subst hc
    · simp (decide := true) only [opM, ↓reduceIte]
      simp [u2_ap, cpL_ap, va_cpy, bt_xor, bt_and, bt_or, bt_0, bt_m1 hσ, bt_cm hσ, lvb, z14 2 (by decide) (by decide), z14 3 (by decide) (by decide), z14 4 (by decide) (by decide), z14 5 (by decide) (by decide), z15 0 (by decide) (by decide), z15 1 (by decide) (by decide), z15 2 (by decide) (by decide), z15 3 (by decide) (by decide), z15 4 (by decide) (by decide), z15 5 (by decide) (by decide), z17 0 (by decide), z17 1 (by decide), z17 2 (by decide), z17 3 (by decide), z17 4 (by decide), z17 5 (by decide)]
      generalize bt (hl 14 0) σ = a0
      generalize bt (hl 14 1) σ = a1
      revert a0 a1
      decide +kernel
theorem jn_21_1_2_0_1 (hi : HI) (hl : HL) (Φ : HI → HL → Prop) (eW eb eu ey ez : Int32) (h3 : hi 10 3 = 21) (h6 : hi 13 6 = 1) (h7 : hi 13 7 = 2) (h8 : hi 13 8 = 0) (h9 : hi 10 9 = 1) (z14 : ∀ j, 2 ≤ j → j < 6 → hl 14 j = 0) (z15 : ∀ j, 0 ≤ j → j < 6 → hl 15 j = 0) (z17 : ∀ j, j < 6 → hl 17 j = 0)
    (h : ∀ hl', (∀ c, (c < 14 ∨ 19 < c) → hl' c = hl c) → (∀ σ, σ < 64 → ∀ j, j < 1 → bt (hl' 17 j) σ = (opM 21 (nI 1) eW eb (nI 1) eu (nI (lvb (fun j => bt (hl 14 j) σ) 2)) ey ez).toNatClampNeg.testBit j) → Φ hi hl') : wpG_join hi hl Φ := by
  have hv : vp_in (21 : Int32) 31 := vp31 21 (by decide)
  have e : swC (21 : Int32).toNatClampNeg = 9 := by decide
  have e2 : swC 21 = 9 := by decide
  unfold wpG_join wbG_join_0
  rw [h3, e]
  simp (decide := true) only [false_implies, true_implies, and_true, true_and, not_true, not_false_eq_true, hv]
  unfold wpG_cut wbG_cut_0
  refine ⟨2, ?_⟩
  simp [wbG_cut_2, h6, h7, h8, h9, u2_ap, vp_in]
  refine h _ (fun c hc => ?_) (fun σ hσ j hj => ?_)
  · funext b
    simp only [u2_ap, cpL_ap]
    repeat rw [if_neg (by omega)]
  · have hc : j = 0 := by omega
    subst hc
    · simp (decide := true) only [opM, ↓reduceIte]
      simp [u2_ap, cpL_ap, va_cpy, bt_xor, bt_and, bt_or, bt_0, bt_m1 hσ, bt_cm hσ, lvb, z14 2 (by decide) (by decide), z14 3 (by decide) (by decide), z14 4 (by decide) (by decide), z14 5 (by decide) (by decide), z15 0 (by decide) (by decide), z15 1 (by decide) (by decide), z15 2 (by decide) (by decide), z15 3 (by decide) (by decide), z15 4 (by decide) (by decide), z15 5 (by decide) (by decide), z17 0 (by decide), z17 1 (by decide), z17 2 (by decide), z17 3 (by decide), z17 4 (by decide), z17 5 (by decide)]
      generalize bt (hl 14 0) σ = a0
      generalize bt (hl 14 1) σ = a1
      revert a0 a1
      decide +kernel
theorem jn_21_2_2_0_0 (hi : HI) (hl : HL) (Φ : HI → HL → Prop) (eW eb eu ey ez : Int32) (h3 : hi 10 3 = 21) (h6 : hi 13 6 = 2) (h7 : hi 13 7 = 2) (h8 : hi 13 8 = 0) (h9 : hi 10 9 = 0) (z14 : ∀ j, 2 ≤ j → j < 6 → hl 14 j = 0) (z15 : ∀ j, 0 ≤ j → j < 6 → hl 15 j = 0) (z17 : ∀ j, j < 6 → hl 17 j = 0)
    (h : ∀ hl', (∀ c, (c < 14 ∨ 19 < c) → hl' c = hl c) → (∀ σ, σ < 64 → ∀ j, j < 2 → bt (hl' 17 j) σ = (opM 21 (nI 2) eW eb (nI 0) eu (nI (lvb (fun j => bt (hl 14 j) σ) 2)) ey ez).toNatClampNeg.testBit j) → Φ hi hl') : wpG_join hi hl Φ := by
  have hv : vp_in (21 : Int32) 31 := vp31 21 (by decide)
  have e : swC (21 : Int32).toNatClampNeg = 9 := by decide
  have e2 : swC 21 = 9 := by decide
  unfold wpG_join wbG_join_0
  rw [h3, e]
  simp (decide := true) only [false_implies, true_implies, and_true, true_and, not_true, not_false_eq_true, hv]
  unfold wpG_cut wbG_cut_0
  refine ⟨3, ?_⟩
  simp [wbG_cut_2, h6, h7, h8, h9, u2_ap, vp_in]
  refine h _ (fun c hc => ?_) (fun σ hσ j hj => ?_)
  · funext b
    simp only [u2_ap, cpL_ap]
    repeat rw [if_neg (by omega)]
  · have hc : j = 0 ∨ j = 1 := by omega
    rcases hc with rfl | rfl
    · simp (decide := true) only [opM, ↓reduceIte]
      simp [u2_ap, cpL_ap, va_cpy, bt_xor, bt_and, bt_or, bt_0, bt_m1 hσ, bt_cm hσ, lvb, z14 2 (by decide) (by decide), z14 3 (by decide) (by decide), z14 4 (by decide) (by decide), z14 5 (by decide) (by decide), z15 0 (by decide) (by decide), z15 1 (by decide) (by decide), z15 2 (by decide) (by decide), z15 3 (by decide) (by decide), z15 4 (by decide) (by decide), z15 5 (by decide) (by decide), z17 0 (by decide), z17 1 (by decide), z17 2 (by decide), z17 3 (by decide), z17 4 (by decide), z17 5 (by decide)]
      generalize bt (hl 14 0) σ = a0
      generalize bt (hl 14 1) σ = a1
      revert a0 a1
      decide +kernel
    · simp (decide := true) only [opM, ↓reduceIte]
      simp [u2_ap, cpL_ap, va_cpy, bt_xor, bt_and, bt_or, bt_0, bt_m1 hσ, bt_cm hσ, lvb, z14 2 (by decide) (by decide), z14 3 (by decide) (by decide), z14 4 (by decide) (by decide), z14 5 (by decide) (by decide), z15 0 (by decide) (by decide), z15 1 (by decide) (by decide), z15 2 (by decide) (by decide), z15 3 (by decide) (by decide), z15 4 (by decide) (by decide), z15 5 (by decide) (by decide), z17 0 (by decide), z17 1 (by decide), z17 2 (by decide), z17 3 (by decide), z17 4 (by decide), z17 5 (by decide)]
      generalize bt (hl 14 0) σ = a0
      generalize bt (hl 14 1) σ = a1
      revert a0 a1
      decide +kernel
theorem jn_21_1_3_0_0 (hi : HI) (hl : HL) (Φ : HI → HL → Prop) (eW eb eu ey ez : Int32) (h3 : hi 10 3 = 21) (h6 : hi 13 6 = 1) (h7 : hi 13 7 = 3) (h8 : hi 13 8 = 0) (h9 : hi 10 9 = 0) (z14 : ∀ j, 3 ≤ j → j < 6 → hl 14 j = 0) (z15 : ∀ j, 0 ≤ j → j < 6 → hl 15 j = 0) (z17 : ∀ j, j < 6 → hl 17 j = 0)
    (h : ∀ hl', (∀ c, (c < 14 ∨ 19 < c) → hl' c = hl c) → (∀ σ, σ < 64 → ∀ j, j < 1 → bt (hl' 17 j) σ = (opM 21 (nI 1) eW eb (nI 0) eu (nI (lvb (fun j => bt (hl 14 j) σ) 3)) ey ez).toNatClampNeg.testBit j) → Φ hi hl') : wpG_join hi hl Φ := by
  have hv : vp_in (21 : Int32) 31 := vp31 21 (by decide)
  have e : swC (21 : Int32).toNatClampNeg = 9 := by decide
  have e2 : swC 21 = 9 := by decide
  unfold wpG_join wbG_join_0
  rw [h3, e]
  simp (decide := true) only [false_implies, true_implies, and_true, true_and, not_true, not_false_eq_true, hv]
  unfold wpG_cut wbG_cut_0
  refine ⟨2, ?_⟩
  simp [wbG_cut_2, h6, h7, h8, h9, u2_ap, vp_in]
  refine h _ (fun c hc => ?_) (fun σ hσ j hj => ?_)
  · funext b
    simp only [u2_ap, cpL_ap]
    repeat rw [if_neg (by omega)]
  · have hc : j = 0 := by omega
    subst hc
    · simp (decide := true) only [opM, ↓reduceIte]
      simp [u2_ap, cpL_ap, va_cpy, bt_xor, bt_and, bt_or, bt_0, bt_m1 hσ, bt_cm hσ, lvb, z14 3 (by decide) (by decide), z14 4 (by decide) (by decide), z14 5 (by decide) (by decide), z15 0 (by decide) (by decide), z15 1 (by decide) (by decide), z15 2 (by decide) (by decide), z15 3 (by decide) (by decide), z15 4 (by decide) (by decide), z15 5 (by decide) (by decide), z17 0 (by decide), z17 1 (by decide), z17 2 (by decide), z17 3 (by decide), z17 4 (by decide), z17 5 (by decide)]
      generalize bt (hl 14 0) σ = a0
      generalize bt (hl 14 1) σ = a1
      generalize bt (hl 14 2) σ = a2
      revert a0 a1 a2
      decide +kernel
theorem jn_21_1_3_0_1 (hi : HI) (hl : HL) (Φ : HI → HL → Prop) (eW eb eu ey ez : Int32) (h3 : hi 10 3 = 21) (h6 : hi 13 6 = 1) (h7 : hi 13 7 = 3) (h8 : hi 13 8 = 0) (h9 : hi 10 9 = 1) (z14 : ∀ j, 3 ≤ j → j < 6 → hl 14 j = 0) (z15 : ∀ j, 0 ≤ j → j < 6 → hl 15 j = 0) (z17 : ∀ j, j < 6 → hl 17 j = 0)
    (h : ∀ hl', (∀ c, (c < 14 ∨ 19 < c) → hl' c = hl c) → (∀ σ, σ < 64 → ∀ j, j < 1 → bt (hl' 17 j) σ = (opM 21 (nI 1) eW eb (nI 1) eu (nI (lvb (fun j => bt (hl 14 j) σ) 3)) ey ez).toNatClampNeg.testBit j) → Φ hi hl') : wpG_join hi hl Φ := by
  have hv : vp_in (21 : Int32) 31 := vp31 21 (by decide)
  have e : swC (21 : Int32).toNatClampNeg = 9 := by decide
  have e2 : swC 21 = 9 := by decide
  unfold wpG_join wbG_join_0
  rw [h3, e]
  simp (decide := true) only [false_implies, true_implies, and_true, true_and, not_true, not_false_eq_true, hv]
  unfold wpG_cut wbG_cut_0
  refine ⟨2, ?_⟩
  simp [wbG_cut_2, h6, h7, h8, h9, u2_ap, vp_in]
  refine h _ (fun c hc => ?_) (fun σ hσ j hj => ?_)
  · funext b
    simp only [u2_ap, cpL_ap]
    repeat rw [if_neg (by omega)]
  · have hc : j = 0 := by omega
    subst hc
    · simp (decide := true) only [opM, ↓reduceIte]
      simp [u2_ap, cpL_ap, va_cpy, bt_xor, bt_and, bt_or, bt_0, bt_m1 hσ, bt_cm hσ, lvb, z14 3 (by decide) (by decide), z14 4 (by decide) (by decide), z14 5 (by decide) (by decide), z15 0 (by decide) (by decide), z15 1 (by decide) (by decide), z15 2 (by decide) (by decide), z15 3 (by decide) (by decide), z15 4 (by decide) (by decide), z15 5 (by decide) (by decide), z17 0 (by decide), z17 1 (by decide), z17 2 (by decide), z17 3 (by decide), z17 4 (by decide), z17 5 (by decide)]
      generalize bt (hl 14 0) σ = a0
      generalize bt (hl 14 1) σ = a1
      generalize bt (hl 14 2) σ = a2
      revert a0 a1 a2
      decide +kernel
theorem jn_21_1_3_0_2 (hi : HI) (hl : HL) (Φ : HI → HL → Prop) (eW eb eu ey ez : Int32) (h3 : hi 10 3 = 21) (h6 : hi 13 6 = 1) (h7 : hi 13 7 = 3) (h8 : hi 13 8 = 0) (h9 : hi 10 9 = 2) (z14 : ∀ j, 3 ≤ j → j < 6 → hl 14 j = 0) (z15 : ∀ j, 0 ≤ j → j < 6 → hl 15 j = 0) (z17 : ∀ j, j < 6 → hl 17 j = 0)
    (h : ∀ hl', (∀ c, (c < 14 ∨ 19 < c) → hl' c = hl c) → (∀ σ, σ < 64 → ∀ j, j < 1 → bt (hl' 17 j) σ = (opM 21 (nI 1) eW eb (nI 2) eu (nI (lvb (fun j => bt (hl 14 j) σ) 3)) ey ez).toNatClampNeg.testBit j) → Φ hi hl') : wpG_join hi hl Φ := by
  have hv : vp_in (21 : Int32) 31 := vp31 21 (by decide)
  have e : swC (21 : Int32).toNatClampNeg = 9 := by decide
  have e2 : swC 21 = 9 := by decide
  unfold wpG_join wbG_join_0
  rw [h3, e]
  simp (decide := true) only [false_implies, true_implies, and_true, true_and, not_true, not_false_eq_true, hv]
  unfold wpG_cut wbG_cut_0
  refine ⟨2, ?_⟩
  simp [wbG_cut_2, h6, h7, h8, h9, u2_ap, vp_in]
  refine h _ (fun c hc => ?_) (fun σ hσ j hj => ?_)
  · funext b
    simp only [u2_ap, cpL_ap]
    repeat rw [if_neg (by omega)]
  · have hc : j = 0 := by omega
    subst hc
    · simp (decide := true) only [opM, ↓reduceIte]
      simp [u2_ap, cpL_ap, va_cpy, bt_xor, bt_and, bt_or, bt_0, bt_m1 hσ, bt_cm hσ, lvb, z14 3 (by decide) (by decide), z14 4 (by decide) (by decide), z14 5 (by decide) (by decide), z15 0 (by decide) (by decide), z15 1 (by decide) (by decide), z15 2 (by decide) (by decide), z15 3 (by decide) (by decide), z15 4 (by decide) (by decide), z15 5 (by decide) (by decide), z17 0 (by decide), z17 1 (by decide), z17 2 (by decide), z17 3 (by decide), z17 4 (by decide), z17 5 (by decide)]
      generalize bt (hl 14 0) σ = a0
      generalize bt (hl 14 1) σ = a1
      generalize bt (hl 14 2) σ = a2
      revert a0 a1 a2
      decide +kernel
theorem jn_21_2_3_0_0 (hi : HI) (hl : HL) (Φ : HI → HL → Prop) (eW eb eu ey ez : Int32) (h3 : hi 10 3 = 21) (h6 : hi 13 6 = 2) (h7 : hi 13 7 = 3) (h8 : hi 13 8 = 0) (h9 : hi 10 9 = 0) (z14 : ∀ j, 3 ≤ j → j < 6 → hl 14 j = 0) (z15 : ∀ j, 0 ≤ j → j < 6 → hl 15 j = 0) (z17 : ∀ j, j < 6 → hl 17 j = 0)
    (h : ∀ hl', (∀ c, (c < 14 ∨ 19 < c) → hl' c = hl c) → (∀ σ, σ < 64 → ∀ j, j < 2 → bt (hl' 17 j) σ = (opM 21 (nI 2) eW eb (nI 0) eu (nI (lvb (fun j => bt (hl 14 j) σ) 3)) ey ez).toNatClampNeg.testBit j) → Φ hi hl') : wpG_join hi hl Φ := by
  have hv : vp_in (21 : Int32) 31 := vp31 21 (by decide)
  have e : swC (21 : Int32).toNatClampNeg = 9 := by decide
  have e2 : swC 21 = 9 := by decide
  unfold wpG_join wbG_join_0
  rw [h3, e]
  simp (decide := true) only [false_implies, true_implies, and_true, true_and, not_true, not_false_eq_true, hv]
  unfold wpG_cut wbG_cut_0
  refine ⟨3, ?_⟩
  simp [wbG_cut_2, h6, h7, h8, h9, u2_ap, vp_in]
  refine h _ (fun c hc => ?_) (fun σ hσ j hj => ?_)
  · funext b
    simp only [u2_ap, cpL_ap]
    repeat rw [if_neg (by omega)]
  · have hc : j = 0 ∨ j = 1 := by omega
    rcases hc with rfl | rfl
    · simp (decide := true) only [opM, ↓reduceIte]
      simp [u2_ap, cpL_ap, va_cpy, bt_xor, bt_and, bt_or, bt_0, bt_m1 hσ, bt_cm hσ, lvb, z14 3 (by decide) (by decide), z14 4 (by decide) (by decide), z14 5 (by decide) (by decide), z15 0 (by decide) (by decide), z15 1 (by decide) (by decide), z15 2 (by decide) (by decide), z15 3 (by decide) (by decide), z15 4 (by decide) (by decide), z15 5 (by decide) (by decide), z17 0 (by decide), z17 1 (by decide), z17 2 (by decide), z17 3 (by decide), z17 4 (by decide), z17 5 (by decide)]
      generalize bt (hl 14 0) σ = a0
      generalize bt (hl 14 1) σ = a1
      generalize bt (hl 14 2) σ = a2
      revert a0 a1 a2
      decide +kernel
    · simp (decide := true) only [opM, ↓reduceIte]
      simp [u2_ap, cpL_ap, va_cpy, bt_xor, bt_and, bt_or, bt_0, bt_m1 hσ, bt_cm hσ, lvb, z14 3 (by decide) (by decide), z14 4 (by decide) (by decide), z14 5 (by decide) (by decide), z15 0 (by decide) (by decide), z15 1 (by decide) (by decide), z15 2 (by decide) (by decide), z15 3 (by decide) (by decide), z15 4 (by decide) (by decide), z15 5 (by decide) (by decide), z17 0 (by decide), z17 1 (by decide), z17 2 (by decide), z17 3 (by decide), z17 4 (by decide), z17 5 (by decide)]
      generalize bt (hl 14 0) σ = a0
      generalize bt (hl 14 1) σ = a1
      generalize bt (hl 14 2) σ = a2
      revert a0 a1 a2
      decide +kernel
theorem jn_21_2_3_0_1 (hi : HI) (hl : HL) (Φ : HI → HL → Prop) (eW eb eu ey ez : Int32) (h3 : hi 10 3 = 21) (h6 : hi 13 6 = 2) (h7 : hi 13 7 = 3) (h8 : hi 13 8 = 0) (h9 : hi 10 9 = 1) (z14 : ∀ j, 3 ≤ j → j < 6 → hl 14 j = 0) (z15 : ∀ j, 0 ≤ j → j < 6 → hl 15 j = 0) (z17 : ∀ j, j < 6 → hl 17 j = 0)
    (h : ∀ hl', (∀ c, (c < 14 ∨ 19 < c) → hl' c = hl c) → (∀ σ, σ < 64 → ∀ j, j < 2 → bt (hl' 17 j) σ = (opM 21 (nI 2) eW eb (nI 1) eu (nI (lvb (fun j => bt (hl 14 j) σ) 3)) ey ez).toNatClampNeg.testBit j) → Φ hi hl') : wpG_join hi hl Φ := by
  have hv : vp_in (21 : Int32) 31 := vp31 21 (by decide)
  have e : swC (21 : Int32).toNatClampNeg = 9 := by decide
  have e2 : swC 21 = 9 := by decide
  unfold wpG_join wbG_join_0
  rw [h3, e]
  simp (decide := true) only [false_implies, true_implies, and_true, true_and, not_true, not_false_eq_true, hv]
  unfold wpG_cut wbG_cut_0
  refine ⟨3, ?_⟩
  simp [wbG_cut_2, h6, h7, h8, h9, u2_ap, vp_in]
  refine h _ (fun c hc => ?_) (fun σ hσ j hj => ?_)
  · funext b
    simp only [u2_ap, cpL_ap]
    repeat rw [if_neg (by omega)]
  · have hc : j = 0 ∨ j = 1 := by omega
    rcases hc with rfl | rfl
    · simp (decide := true) only [opM, ↓reduceIte]
      simp [u2_ap, cpL_ap, va_cpy, bt_xor, bt_and, bt_or, bt_0, bt_m1 hσ, bt_cm hσ, lvb, z14 3 (by decide) (by decide), z14 4 (by decide) (by decide), z14 5 (by decide) (by decide), z15 0 (by decide) (by decide), z15 1 (by decide) (by decide), z15 2 (by decide) (by decide), z15 3 (by decide) (by decide), z15 4 (by decide) (by decide), z15 5 (by decide) (by decide), z17 0 (by decide), z17 1 (by decide), z17 2 (by decide), z17 3 (by decide), z17 4 (by decide), z17 5 (by decide)]
      generalize bt (hl 14 0) σ = a0
      generalize bt (hl 14 1) σ = a1
      generalize bt (hl 14 2) σ = a2
      revert a0 a1 a2
      decide +kernel
    · simp (decide := true) only [opM, ↓reduceIte]
      simp [u2_ap, cpL_ap, va_cpy, bt_xor, bt_and, bt_or, bt_0, bt_m1 hσ, bt_cm hσ, lvb, z14 3 (by decide) (by decide), z14 4 (by decide) (by decide), z14 5 (by decide) (by decide), z15 0 (by decide) (by decide), z15 1 (by decide) (by decide), z15 2 (by decide) (by decide), z15 3 (by decide) (by decide), z15 4 (by decide) (by decide), z15 5 (by decide) (by decide), z17 0 (by decide), z17 1 (by decide), z17 2 (by decide), z17 3 (by decide), z17 4 (by decide), z17 5 (by decide)]
      generalize bt (hl 14 0) σ = a0
      generalize bt (hl 14 1) σ = a1
      generalize bt (hl 14 2) σ = a2
      revert a0 a1 a2
      decide +kernel
theorem jn_21_3_3_0_0 (hi : HI) (hl : HL) (Φ : HI → HL → Prop) (eW eb eu ey ez : Int32) (h3 : hi 10 3 = 21) (h6 : hi 13 6 = 3) (h7 : hi 13 7 = 3) (h8 : hi 13 8 = 0) (h9 : hi 10 9 = 0) (z14 : ∀ j, 3 ≤ j → j < 6 → hl 14 j = 0) (z15 : ∀ j, 0 ≤ j → j < 6 → hl 15 j = 0) (z17 : ∀ j, j < 6 → hl 17 j = 0)
    (h : ∀ hl', (∀ c, (c < 14 ∨ 19 < c) → hl' c = hl c) → (∀ σ, σ < 64 → ∀ j, j < 3 → bt (hl' 17 j) σ = (opM 21 (nI 3) eW eb (nI 0) eu (nI (lvb (fun j => bt (hl 14 j) σ) 3)) ey ez).toNatClampNeg.testBit j) → Φ hi hl') : wpG_join hi hl Φ := by
  have hv : vp_in (21 : Int32) 31 := vp31 21 (by decide)
  have e : swC (21 : Int32).toNatClampNeg = 9 := by decide
  have e2 : swC 21 = 9 := by decide
  unfold wpG_join wbG_join_0
  rw [h3, e]
  simp (decide := true) only [false_implies, true_implies, and_true, true_and, not_true, not_false_eq_true, hv]
  unfold wpG_cut wbG_cut_0
  refine ⟨4, ?_⟩
  simp [wbG_cut_2, h6, h7, h8, h9, u2_ap, vp_in]
  refine h _ (fun c hc => ?_) (fun σ hσ j hj => ?_)
  · funext b
    simp only [u2_ap, cpL_ap]
    repeat rw [if_neg (by omega)]
  · have hc : j = 0 ∨ j = 1 ∨ j = 2 := by omega
    rcases hc with rfl | rfl | rfl
    · simp (decide := true) only [opM, ↓reduceIte]
      simp [u2_ap, cpL_ap, va_cpy, bt_xor, bt_and, bt_or, bt_0, bt_m1 hσ, bt_cm hσ, lvb, z14 3 (by decide) (by decide), z14 4 (by decide) (by decide), z14 5 (by decide) (by decide), z15 0 (by decide) (by decide), z15 1 (by decide) (by decide), z15 2 (by decide) (by decide), z15 3 (by decide) (by decide), z15 4 (by decide) (by decide), z15 5 (by decide) (by decide), z17 0 (by decide), z17 1 (by decide), z17 2 (by decide), z17 3 (by decide), z17 4 (by decide), z17 5 (by decide)]
      generalize bt (hl 14 0) σ = a0
      generalize bt (hl 14 1) σ = a1
      generalize bt (hl 14 2) σ = a2
      revert a0 a1 a2
      decide +kernel
    · simp (decide := true) only [opM, ↓reduceIte]
      simp [u2_ap, cpL_ap, va_cpy, bt_xor, bt_and, bt_or, bt_0, bt_m1 hσ, bt_cm hσ, lvb, z14 3 (by decide) (by decide), z14 4 (by decide) (by decide), z14 5 (by decide) (by decide), z15 0 (by decide) (by decide), z15 1 (by decide) (by decide), z15 2 (by decide) (by decide), z15 3 (by decide) (by decide), z15 4 (by decide) (by decide), z15 5 (by decide) (by decide), z17 0 (by decide), z17 1 (by decide), z17 2 (by decide), z17 3 (by decide), z17 4 (by decide), z17 5 (by decide)]
      generalize bt (hl 14 0) σ = a0
      generalize bt (hl 14 1) σ = a1
      generalize bt (hl 14 2) σ = a2
      revert a0 a1 a2
      decide +kernel
    · simp (decide := true) only [opM, ↓reduceIte]
      simp [u2_ap, cpL_ap, va_cpy, bt_xor, bt_and, bt_or, bt_0, bt_m1 hσ, bt_cm hσ, lvb, z14 3 (by decide) (by decide), z14 4 (by decide) (by decide), z14 5 (by decide) (by decide), z15 0 (by decide) (by decide), z15 1 (by decide) (by decide), z15 2 (by decide) (by decide), z15 3 (by decide) (by decide), z15 4 (by decide) (by decide), z15 5 (by decide) (by decide), z17 0 (by decide), z17 1 (by decide), z17 2 (by decide), z17 3 (by decide), z17 4 (by decide), z17 5 (by decide)]
      generalize bt (hl 14 0) σ = a0
      generalize bt (hl 14 1) σ = a1
      generalize bt (hl 14 2) σ = a2
      revert a0 a1 a2
      decide +kernel
theorem jn_22_1_1_0 (hi : HI) (hl : HL) (Φ : HI → HL → Prop) (ew eW eb el eu ey ez : Int32) (h3 : hi 10 3 = 22) (h6 : hi 13 6 = 1) (h7 : hi 13 7 = 1) (h8 : hi 13 8 = 0) (z14 : ∀ j, 1 ≤ j → j < 6 → hl 14 j = 0) (z15 : ∀ j, 0 ≤ j → j < 6 → hl 15 j = 0) (z17 : ∀ j, j < 6 → hl 17 j = 0)
    (h : ∀ hl', (∀ c, (c < 14 ∨ 19 < c) → hl' c = hl c) → (∀ σ, σ < 64 → ∀ j, j < 1 → bt (hl' 17 j) σ = (opM 22 ew eW eb el eu (nI (lvb (fun j => bt (hl 14 j) σ) 1)) ey ez).toNatClampNeg.testBit j) → Φ hi hl') : wpG_join hi hl Φ := by
  have hv : vp_in (22 : Int32) 31 := vp31 22 (by decide)
  have e : swC (22 : Int32).toNatClampNeg = 20 := by decide
  have e2 : swC 22 = 20 := by decide
  unfold wpG_join wbG_join_0
  rw [h3, e]
  simp (decide := true) only [false_implies, true_implies, and_true, true_and, not_true, not_false_eq_true, hv]
  unfold wpG_arrange wbG_arrange_0
  refine ⟨by decide, ⟨2, ?_⟩⟩
  simp [wbG_arrange_9, wbG_arrange_93, wbG_arrange_138, wbG_arrange_118, wbG_arrange_234, wbG_arrange_250, wpG_choose, wbG_choose_0, hv, e2, h6, h7, h8, u2_ap, vp_in]
  refine h _ (fun c hc => ?_) (fun σ hσ j hj => ?_)
  · funext b
    simp only [u2_ap, cpL_ap]
    repeat rw [if_neg (by omega)]
  · have hc : j = 0 := by omega
    subst hc
    · simp (decide := true) only [opM, ↓reduceIte]
      simp [u2_ap, cpL_ap, va_cpy, bt_xor, bt_and, bt_or, bt_0, bt_m1 hσ, bt_cm hσ, lvb, z14 1 (by decide) (by decide), z14 2 (by decide) (by decide), z14 3 (by decide) (by decide), z14 4 (by decide) (by decide), z14 5 (by decide) (by decide), z15 0 (by decide) (by decide), z15 1 (by decide) (by decide), z15 2 (by decide) (by decide), z15 3 (by decide) (by decide), z15 4 (by decide) (by decide), z15 5 (by decide) (by decide), z17 0 (by decide), z17 1 (by decide), z17 2 (by decide), z17 3 (by decide), z17 4 (by decide), z17 5 (by decide)]
      generalize bt (hl 14 0) σ = a0
      revert a0
      decide +kernel
theorem jn_23_1_1_0 (hi : HI) (hl : HL) (Φ : HI → HL → Prop) (eb el eu ey ez : Int32) (h3 : hi 10 3 = 23) (h6 : hi 13 6 = 1) (h7 : hi 13 7 = 1) (h8 : hi 13 8 = 0) (z14 : ∀ j, 1 ≤ j → j < 6 → hl 14 j = 0) (z15 : ∀ j, 0 ≤ j → j < 6 → hl 15 j = 0) (z17 : ∀ j, j < 6 → hl 17 j = 0)
    (h : ∀ hl', (∀ c, (c < 14 ∨ 19 < c) → hl' c = hl c) → (∀ σ, σ < 64 → ∀ j, j < 1 → bt (hl' 17 j) σ = (opM 23 (nI 1) (nI 1) eb el eu (nI (lvb (fun j => bt (hl 14 j) σ) 1)) ey ez).toNatClampNeg.testBit j) → Φ hi hl') : wpG_join hi hl Φ := by
  have hv : vp_in (23 : Int32) 31 := vp31 23 (by decide)
  have e : swC (23 : Int32).toNatClampNeg = 21 := by decide
  have e2 : swC 23 = 21 := by decide
  unfold wpG_join wbG_join_0
  rw [h3, e]
  simp (decide := true) only [false_implies, true_implies, and_true, true_and, not_true, not_false_eq_true, hv]
  unfold wpG_arrange wbG_arrange_0
  refine ⟨by decide, ⟨2, ?_⟩⟩
  simp [wbG_arrange_9, wbG_arrange_93, wbG_arrange_138, wbG_arrange_118, wbG_arrange_234, wbG_arrange_250, wpG_choose, wbG_choose_0, hv, e2, h6, h7, h8, u2_ap, vp_in]
  refine h _ (fun c hc => ?_) (fun σ hσ j hj => ?_)
  · funext b
    simp only [u2_ap, cpL_ap]
    repeat rw [if_neg (by omega)]
  · have hc : j = 0 := by omega
    subst hc
    · simp (decide := true) only [opM, ↓reduceIte]
      simp [u2_ap, cpL_ap, va_cpy, bt_xor, bt_and, bt_or, bt_0, bt_m1 hσ, bt_cm hσ, lvb, z14 1 (by decide) (by decide), z14 2 (by decide) (by decide), z14 3 (by decide) (by decide), z14 4 (by decide) (by decide), z14 5 (by decide) (by decide), z15 0 (by decide) (by decide), z15 1 (by decide) (by decide), z15 2 (by decide) (by decide), z15 3 (by decide) (by decide), z15 4 (by decide) (by decide), z15 5 (by decide) (by decide), z17 0 (by decide), z17 1 (by decide), z17 2 (by decide), z17 3 (by decide), z17 4 (by decide), z17 5 (by decide)]
      generalize bt (hl 14 0) σ = a0
      revert a0
      decide +kernel
theorem jn_22_2_1_0 (hi : HI) (hl : HL) (Φ : HI → HL → Prop) (ew eW eb el eu ey ez : Int32) (h3 : hi 10 3 = 22) (h6 : hi 13 6 = 2) (h7 : hi 13 7 = 1) (h8 : hi 13 8 = 0) (z14 : ∀ j, 1 ≤ j → j < 6 → hl 14 j = 0) (z15 : ∀ j, 0 ≤ j → j < 6 → hl 15 j = 0) (z17 : ∀ j, j < 6 → hl 17 j = 0)
    (h : ∀ hl', (∀ c, (c < 14 ∨ 19 < c) → hl' c = hl c) → (∀ σ, σ < 64 → ∀ j, j < 2 → bt (hl' 17 j) σ = (opM 22 ew eW eb el eu (nI (lvb (fun j => bt (hl 14 j) σ) 1)) ey ez).toNatClampNeg.testBit j) → Φ hi hl') : wpG_join hi hl Φ := by
  have hv : vp_in (22 : Int32) 31 := vp31 22 (by decide)
  have e : swC (22 : Int32).toNatClampNeg = 20 := by decide
  have e2 : swC 22 = 20 := by decide
  unfold wpG_join wbG_join_0
  rw [h3, e]
  simp (decide := true) only [false_implies, true_implies, and_true, true_and, not_true, not_false_eq_true, hv]
  unfold wpG_arrange wbG_arrange_0
  refine ⟨by decide, ⟨3, ?_⟩⟩
  simp [wbG_arrange_9, wbG_arrange_93, wbG_arrange_138, wbG_arrange_118, wbG_arrange_234, wbG_arrange_250, wpG_choose, wbG_choose_0, hv, e2, h6, h7, h8, u2_ap, vp_in]
  refine h _ (fun c hc => ?_) (fun σ hσ j hj => ?_)
  · funext b
    simp only [u2_ap, cpL_ap]
    repeat rw [if_neg (by omega)]
  · have hc : j = 0 ∨ j = 1 := by omega
    rcases hc with rfl | rfl
    · simp (decide := true) only [opM, ↓reduceIte]
      simp [u2_ap, cpL_ap, va_cpy, bt_xor, bt_and, bt_or, bt_0, bt_m1 hσ, bt_cm hσ, lvb, z14 1 (by decide) (by decide), z14 2 (by decide) (by decide), z14 3 (by decide) (by decide), z14 4 (by decide) (by decide), z14 5 (by decide) (by decide), z15 0 (by decide) (by decide), z15 1 (by decide) (by decide), z15 2 (by decide) (by decide), z15 3 (by decide) (by decide), z15 4 (by decide) (by decide), z15 5 (by decide) (by decide), z17 0 (by decide), z17 1 (by decide), z17 2 (by decide), z17 3 (by decide), z17 4 (by decide), z17 5 (by decide)]
      generalize bt (hl 14 0) σ = a0
      revert a0
      decide +kernel
    · simp (decide := true) only [opM, ↓reduceIte]
      simp [u2_ap, cpL_ap, va_cpy, bt_xor, bt_and, bt_or, bt_0, bt_m1 hσ, bt_cm hσ, lvb, z14 1 (by decide) (by decide), z14 2 (by decide) (by decide), z14 3 (by decide) (by decide), z14 4 (by decide) (by decide), z14 5 (by decide) (by decide), z15 0 (by decide) (by decide), z15 1 (by decide) (by decide), z15 2 (by decide) (by decide), z15 3 (by decide) (by decide), z15 4 (by decide) (by decide), z15 5 (by decide) (by decide), z17 0 (by decide), z17 1 (by decide), z17 2 (by decide), z17 3 (by decide), z17 4 (by decide), z17 5 (by decide)]
      generalize bt (hl 14 0) σ = a0
      revert a0
      decide +kernel
theorem jn_23_2_1_0 (hi : HI) (hl : HL) (Φ : HI → HL → Prop) (eb el eu ey ez : Int32) (h3 : hi 10 3 = 23) (h6 : hi 13 6 = 2) (h7 : hi 13 7 = 1) (h8 : hi 13 8 = 0) (z14 : ∀ j, 1 ≤ j → j < 6 → hl 14 j = 0) (z15 : ∀ j, 0 ≤ j → j < 6 → hl 15 j = 0) (z17 : ∀ j, j < 6 → hl 17 j = 0)
    (h : ∀ hl', (∀ c, (c < 14 ∨ 19 < c) → hl' c = hl c) → (∀ σ, σ < 64 → ∀ j, j < 2 → bt (hl' 17 j) σ = (opM 23 (nI 2) (nI 1) eb el eu (nI (lvb (fun j => bt (hl 14 j) σ) 1)) ey ez).toNatClampNeg.testBit j) → Φ hi hl') : wpG_join hi hl Φ := by
  have hv : vp_in (23 : Int32) 31 := vp31 23 (by decide)
  have e : swC (23 : Int32).toNatClampNeg = 21 := by decide
  have e2 : swC 23 = 21 := by decide
  unfold wpG_join wbG_join_0
  rw [h3, e]
  simp (decide := true) only [false_implies, true_implies, and_true, true_and, not_true, not_false_eq_true, hv]
  unfold wpG_arrange wbG_arrange_0
  refine ⟨by decide, ⟨3, ?_⟩⟩
  simp [wbG_arrange_9, wbG_arrange_93, wbG_arrange_138, wbG_arrange_118, wbG_arrange_234, wbG_arrange_250, wpG_choose, wbG_choose_0, hv, e2, h6, h7, h8, u2_ap, vp_in]
  refine h _ (fun c hc => ?_) (fun σ hσ j hj => ?_)
  · funext b
    simp only [u2_ap, cpL_ap]
    repeat rw [if_neg (by omega)]
  · have hc : j = 0 ∨ j = 1 := by omega
    rcases hc with rfl | rfl
    · simp (decide := true) only [opM, ↓reduceIte]
      simp [u2_ap, cpL_ap, va_cpy, bt_xor, bt_and, bt_or, bt_0, bt_m1 hσ, bt_cm hσ, lvb, z14 1 (by decide) (by decide), z14 2 (by decide) (by decide), z14 3 (by decide) (by decide), z14 4 (by decide) (by decide), z14 5 (by decide) (by decide), z15 0 (by decide) (by decide), z15 1 (by decide) (by decide), z15 2 (by decide) (by decide), z15 3 (by decide) (by decide), z15 4 (by decide) (by decide), z15 5 (by decide) (by decide), z17 0 (by decide), z17 1 (by decide), z17 2 (by decide), z17 3 (by decide), z17 4 (by decide), z17 5 (by decide)]
      generalize bt (hl 14 0) σ = a0
      revert a0
      decide +kernel
    · simp (decide := true) only [opM, ↓reduceIte]
      simp [u2_ap, cpL_ap, va_cpy, bt_xor, bt_and, bt_or, bt_0, bt_m1 hσ, bt_cm hσ, lvb, z14 1 (by decide) (by decide), z14 2 (by decide) (by decide), z14 3 (by decide) (by decide), z14 4 (by decide) (by decide), z14 5 (by decide) (by decide), z15 0 (by decide) (by decide), z15 1 (by decide) (by decide), z15 2 (by decide) (by decide), z15 3 (by decide) (by decide), z15 4 (by decide) (by decide), z15 5 (by decide) (by decide), z17 0 (by decide), z17 1 (by decide), z17 2 (by decide), z17 3 (by decide), z17 4 (by decide), z17 5 (by decide)]
      generalize bt (hl 14 0) σ = a0
      revert a0
      decide +kernel
theorem jn_22_2_2_0 (hi : HI) (hl : HL) (Φ : HI → HL → Prop) (ew eW eb el eu ey ez : Int32) (h3 : hi 10 3 = 22) (h6 : hi 13 6 = 2) (h7 : hi 13 7 = 2) (h8 : hi 13 8 = 0) (z14 : ∀ j, 2 ≤ j → j < 6 → hl 14 j = 0) (z15 : ∀ j, 0 ≤ j → j < 6 → hl 15 j = 0) (z17 : ∀ j, j < 6 → hl 17 j = 0)
    (h : ∀ hl', (∀ c, (c < 14 ∨ 19 < c) → hl' c = hl c) → (∀ σ, σ < 64 → ∀ j, j < 2 → bt (hl' 17 j) σ = (opM 22 ew eW eb el eu (nI (lvb (fun j => bt (hl 14 j) σ) 2)) ey ez).toNatClampNeg.testBit j) → Φ hi hl') : wpG_join hi hl Φ := by
  have hv : vp_in (22 : Int32) 31 := vp31 22 (by decide)
  have e : swC (22 : Int32).toNatClampNeg = 20 := by decide
  have e2 : swC 22 = 20 := by decide
  unfold wpG_join wbG_join_0
  rw [h3, e]
  simp (decide := true) only [false_implies, true_implies, and_true, true_and, not_true, not_false_eq_true, hv]
  unfold wpG_arrange wbG_arrange_0
  refine ⟨by decide, ⟨3, ?_⟩⟩
  simp [wbG_arrange_9, wbG_arrange_93, wbG_arrange_138, wbG_arrange_118, wbG_arrange_234, wbG_arrange_250, wpG_choose, wbG_choose_0, hv, e2, h6, h7, h8, u2_ap, vp_in]
  refine h _ (fun c hc => ?_) (fun σ hσ j hj => ?_)
  · funext b
    simp only [u2_ap, cpL_ap]
    repeat rw [if_neg (by omega)]
  · have hc : j = 0 ∨ j = 1 := by omega
    rcases hc with rfl | rfl
    · simp (decide := true) only [opM, ↓reduceIte]
      simp [u2_ap, cpL_ap, va_cpy, bt_xor, bt_and, bt_or, bt_0, bt_m1 hσ, bt_cm hσ, lvb, z14 2 (by decide) (by decide), z14 3 (by decide) (by decide), z14 4 (by decide) (by decide), z14 5 (by decide) (by decide), z15 0 (by decide) (by decide), z15 1 (by decide) (by decide), z15 2 (by decide) (by decide), z15 3 (by decide) (by decide), z15 4 (by decide) (by decide), z15 5 (by decide) (by decide), z17 0 (by decide), z17 1 (by decide), z17 2 (by decide), z17 3 (by decide), z17 4 (by decide), z17 5 (by decide)]
      generalize bt (hl 14 0) σ = a0
      generalize bt (hl 14 1) σ = a1
      revert a0 a1
      decide +kernel
    · simp (decide := true) only [opM, ↓reduceIte]
      simp [u2_ap, cpL_ap, va_cpy, bt_xor, bt_and, bt_or, bt_0, bt_m1 hσ, bt_cm hσ, lvb, z14 2 (by decide) (by decide), z14 3 (by decide) (by decide), z14 4 (by decide) (by decide), z14 5 (by decide) (by decide), z15 0 (by decide) (by decide), z15 1 (by decide) (by decide), z15 2 (by decide) (by decide), z15 3 (by decide) (by decide), z15 4 (by decide) (by decide), z15 5 (by decide) (by decide), z17 0 (by decide), z17 1 (by decide), z17 2 (by decide), z17 3 (by decide), z17 4 (by decide), z17 5 (by decide)]
      generalize bt (hl 14 0) σ = a0
      generalize bt (hl 14 1) σ = a1
      revert a0 a1
      decide +kernel
theorem jn_23_2_2_0 (hi : HI) (hl : HL) (Φ : HI → HL → Prop) (eb el eu ey ez : Int32) (h3 : hi 10 3 = 23) (h6 : hi 13 6 = 2) (h7 : hi 13 7 = 2) (h8 : hi 13 8 = 0) (z14 : ∀ j, 2 ≤ j → j < 6 → hl 14 j = 0) (z15 : ∀ j, 0 ≤ j → j < 6 → hl 15 j = 0) (z17 : ∀ j, j < 6 → hl 17 j = 0)
    (h : ∀ hl', (∀ c, (c < 14 ∨ 19 < c) → hl' c = hl c) → (∀ σ, σ < 64 → ∀ j, j < 2 → bt (hl' 17 j) σ = (opM 23 (nI 2) (nI 2) eb el eu (nI (lvb (fun j => bt (hl 14 j) σ) 2)) ey ez).toNatClampNeg.testBit j) → Φ hi hl') : wpG_join hi hl Φ := by
  have hv : vp_in (23 : Int32) 31 := vp31 23 (by decide)
  have e : swC (23 : Int32).toNatClampNeg = 21 := by decide
  have e2 : swC 23 = 21 := by decide
  unfold wpG_join wbG_join_0
  rw [h3, e]
  simp (decide := true) only [false_implies, true_implies, and_true, true_and, not_true, not_false_eq_true, hv]
  unfold wpG_arrange wbG_arrange_0
  refine ⟨by decide, ⟨3, ?_⟩⟩
  simp [wbG_arrange_9, wbG_arrange_93, wbG_arrange_138, wbG_arrange_118, wbG_arrange_234, wbG_arrange_250, wpG_choose, wbG_choose_0, hv, e2, h6, h7, h8, u2_ap, vp_in]
  refine h _ (fun c hc => ?_) (fun σ hσ j hj => ?_)
  · funext b
    simp only [u2_ap, cpL_ap]
    repeat rw [if_neg (by omega)]
  · have hc : j = 0 ∨ j = 1 := by omega
    rcases hc with rfl | rfl
    · simp (decide := true) only [opM, ↓reduceIte]
      simp [u2_ap, cpL_ap, va_cpy, bt_xor, bt_and, bt_or, bt_0, bt_m1 hσ, bt_cm hσ, lvb, z14 2 (by decide) (by decide), z14 3 (by decide) (by decide), z14 4 (by decide) (by decide), z14 5 (by decide) (by decide), z15 0 (by decide) (by decide), z15 1 (by decide) (by decide), z15 2 (by decide) (by decide), z15 3 (by decide) (by decide), z15 4 (by decide) (by decide), z15 5 (by decide) (by decide), z17 0 (by decide), z17 1 (by decide), z17 2 (by decide), z17 3 (by decide), z17 4 (by decide), z17 5 (by decide)]
      generalize bt (hl 14 0) σ = a0
      generalize bt (hl 14 1) σ = a1
      revert a0 a1
      decide +kernel
    · simp (decide := true) only [opM, ↓reduceIte]
      simp [u2_ap, cpL_ap, va_cpy, bt_xor, bt_and, bt_or, bt_0, bt_m1 hσ, bt_cm hσ, lvb, z14 2 (by decide) (by decide), z14 3 (by decide) (by decide), z14 4 (by decide) (by decide), z14 5 (by decide) (by decide), z15 0 (by decide) (by decide), z15 1 (by decide) (by decide), z15 2 (by decide) (by decide), z15 3 (by decide) (by decide), z15 4 (by decide) (by decide), z15 5 (by decide) (by decide), z17 0 (by decide), z17 1 (by decide), z17 2 (by decide), z17 3 (by decide), z17 4 (by decide), z17 5 (by decide)]
      generalize bt (hl 14 0) σ = a0
      generalize bt (hl 14 1) σ = a1
      revert a0 a1
      decide +kernel
theorem jn_22_3_1_0 (hi : HI) (hl : HL) (Φ : HI → HL → Prop) (ew eW eb el eu ey ez : Int32) (h3 : hi 10 3 = 22) (h6 : hi 13 6 = 3) (h7 : hi 13 7 = 1) (h8 : hi 13 8 = 0) (z14 : ∀ j, 1 ≤ j → j < 6 → hl 14 j = 0) (z15 : ∀ j, 0 ≤ j → j < 6 → hl 15 j = 0) (z17 : ∀ j, j < 6 → hl 17 j = 0)
    (h : ∀ hl', (∀ c, (c < 14 ∨ 19 < c) → hl' c = hl c) → (∀ σ, σ < 64 → ∀ j, j < 3 → bt (hl' 17 j) σ = (opM 22 ew eW eb el eu (nI (lvb (fun j => bt (hl 14 j) σ) 1)) ey ez).toNatClampNeg.testBit j) → Φ hi hl') : wpG_join hi hl Φ := by
  have hv : vp_in (22 : Int32) 31 := vp31 22 (by decide)
  have e : swC (22 : Int32).toNatClampNeg = 20 := by decide
  have e2 : swC 22 = 20 := by decide
  unfold wpG_join wbG_join_0
  rw [h3, e]
  simp (decide := true) only [false_implies, true_implies, and_true, true_and, not_true, not_false_eq_true, hv]
  unfold wpG_arrange wbG_arrange_0
  refine ⟨by decide, ⟨4, ?_⟩⟩
  simp [wbG_arrange_9, wbG_arrange_93, wbG_arrange_138, wbG_arrange_118, wbG_arrange_234, wbG_arrange_250, wpG_choose, wbG_choose_0, hv, e2, h6, h7, h8, u2_ap, vp_in]
  refine h _ (fun c hc => ?_) (fun σ hσ j hj => ?_)
  · funext b
    simp only [u2_ap, cpL_ap]
    repeat rw [if_neg (by omega)]
  · have hc : j = 0 ∨ j = 1 ∨ j = 2 := by omega
    rcases hc with rfl | rfl | rfl
    · simp (decide := true) only [opM, ↓reduceIte]
      simp [u2_ap, cpL_ap, va_cpy, bt_xor, bt_and, bt_or, bt_0, bt_m1 hσ, bt_cm hσ, lvb, z14 1 (by decide) (by decide), z14 2 (by decide) (by decide), z14 3 (by decide) (by decide), z14 4 (by decide) (by decide), z14 5 (by decide) (by decide), z15 0 (by decide) (by decide), z15 1 (by decide) (by decide), z15 2 (by decide) (by decide), z15 3 (by decide) (by decide), z15 4 (by decide) (by decide), z15 5 (by decide) (by decide), z17 0 (by decide), z17 1 (by decide), z17 2 (by decide), z17 3 (by decide), z17 4 (by decide), z17 5 (by decide)]
      generalize bt (hl 14 0) σ = a0
      revert a0
      decide +kernel
    · simp (decide := true) only [opM, ↓reduceIte]
      simp [u2_ap, cpL_ap, va_cpy, bt_xor, bt_and, bt_or, bt_0, bt_m1 hσ, bt_cm hσ, lvb, z14 1 (by decide) (by decide), z14 2 (by decide) (by decide), z14 3 (by decide) (by decide), z14 4 (by decide) (by decide), z14 5 (by decide) (by decide), z15 0 (by decide) (by decide), z15 1 (by decide) (by decide), z15 2 (by decide) (by decide), z15 3 (by decide) (by decide), z15 4 (by decide) (by decide), z15 5 (by decide) (by decide), z17 0 (by decide), z17 1 (by decide), z17 2 (by decide), z17 3 (by decide), z17 4 (by decide), z17 5 (by decide)]
      generalize bt (hl 14 0) σ = a0
      revert a0
      decide +kernel
    · simp (decide := true) only [opM, ↓reduceIte]
      simp [u2_ap, cpL_ap, va_cpy, bt_xor, bt_and, bt_or, bt_0, bt_m1 hσ, bt_cm hσ, lvb, z14 1 (by decide) (by decide), z14 2 (by decide) (by decide), z14 3 (by decide) (by decide), z14 4 (by decide) (by decide), z14 5 (by decide) (by decide), z15 0 (by decide) (by decide), z15 1 (by decide) (by decide), z15 2 (by decide) (by decide), z15 3 (by decide) (by decide), z15 4 (by decide) (by decide), z15 5 (by decide) (by decide), z17 0 (by decide), z17 1 (by decide), z17 2 (by decide), z17 3 (by decide), z17 4 (by decide), z17 5 (by decide)]
      generalize bt (hl 14 0) σ = a0
      revert a0
      decide +kernel
theorem jn_23_3_1_0 (hi : HI) (hl : HL) (Φ : HI → HL → Prop) (eb el eu ey ez : Int32) (h3 : hi 10 3 = 23) (h6 : hi 13 6 = 3) (h7 : hi 13 7 = 1) (h8 : hi 13 8 = 0) (z14 : ∀ j, 1 ≤ j → j < 6 → hl 14 j = 0) (z15 : ∀ j, 0 ≤ j → j < 6 → hl 15 j = 0) (z17 : ∀ j, j < 6 → hl 17 j = 0)
    (h : ∀ hl', (∀ c, (c < 14 ∨ 19 < c) → hl' c = hl c) → (∀ σ, σ < 64 → ∀ j, j < 3 → bt (hl' 17 j) σ = (opM 23 (nI 3) (nI 1) eb el eu (nI (lvb (fun j => bt (hl 14 j) σ) 1)) ey ez).toNatClampNeg.testBit j) → Φ hi hl') : wpG_join hi hl Φ := by
  have hv : vp_in (23 : Int32) 31 := vp31 23 (by decide)
  have e : swC (23 : Int32).toNatClampNeg = 21 := by decide
  have e2 : swC 23 = 21 := by decide
  unfold wpG_join wbG_join_0
  rw [h3, e]
  simp (decide := true) only [false_implies, true_implies, and_true, true_and, not_true, not_false_eq_true, hv]
  unfold wpG_arrange wbG_arrange_0
  refine ⟨by decide, ⟨4, ?_⟩⟩
  simp [wbG_arrange_9, wbG_arrange_93, wbG_arrange_138, wbG_arrange_118, wbG_arrange_234, wbG_arrange_250, wpG_choose, wbG_choose_0, hv, e2, h6, h7, h8, u2_ap, vp_in]
  refine h _ (fun c hc => ?_) (fun σ hσ j hj => ?_)
  · funext b
    simp only [u2_ap, cpL_ap]
    repeat rw [if_neg (by omega)]
  · have hc : j = 0 ∨ j = 1 ∨ j = 2 := by omega
    rcases hc with rfl | rfl | rfl
    · simp (decide := true) only [opM, ↓reduceIte]
      simp [u2_ap, cpL_ap, va_cpy, bt_xor, bt_and, bt_or, bt_0, bt_m1 hσ, bt_cm hσ, lvb, z14 1 (by decide) (by decide), z14 2 (by decide) (by decide), z14 3 (by decide) (by decide), z14 4 (by decide) (by decide), z14 5 (by decide) (by decide), z15 0 (by decide) (by decide), z15 1 (by decide) (by decide), z15 2 (by decide) (by decide), z15 3 (by decide) (by decide), z15 4 (by decide) (by decide), z15 5 (by decide) (by decide), z17 0 (by decide), z17 1 (by decide), z17 2 (by decide), z17 3 (by decide), z17 4 (by decide), z17 5 (by decide)]
      generalize bt (hl 14 0) σ = a0
      revert a0
      decide +kernel
    · simp (decide := true) only [opM, ↓reduceIte]
      simp [u2_ap, cpL_ap, va_cpy, bt_xor, bt_and, bt_or, bt_0, bt_m1 hσ, bt_cm hσ, lvb, z14 1 (by decide) (by decide), z14 2 (by decide) (by decide), z14 3 (by decide) (by decide), z14 4 (by decide) (by decide), z14 5 (by decide) (by decide), z15 0 (by decide) (by decide), z15 1 (by decide) (by decide), z15 2 (by decide) (by decide), z15 3 (by decide) (by decide), z15 4 (by decide) (by decide), z15 5 (by decide) (by decide), z17 0 (by decide), z17 1 (by decide), z17 2 (by decide), z17 3 (by decide), z17 4 (by decide), z17 5 (by decide)]
      generalize bt (hl 14 0) σ = a0
      revert a0
      decide +kernel
    · simp (decide := true) only [opM, ↓reduceIte]
      simp [u2_ap, cpL_ap, va_cpy, bt_xor, bt_and, bt_or, bt_0, bt_m1 hσ, bt_cm hσ, lvb, z14 1 (by decide) (by decide), z14 2 (by decide) (by decide), z14 3 (by decide) (by decide), z14 4 (by decide) (by decide), z14 5 (by decide) (by decide), z15 0 (by decide) (by decide), z15 1 (by decide) (by decide), z15 2 (by decide) (by decide), z15 3 (by decide) (by decide), z15 4 (by decide) (by decide), z15 5 (by decide) (by decide), z17 0 (by decide), z17 1 (by decide), z17 2 (by decide), z17 3 (by decide), z17 4 (by decide), z17 5 (by decide)]
      generalize bt (hl 14 0) σ = a0
      revert a0
      decide +kernel
theorem jn_22_3_2_0 (hi : HI) (hl : HL) (Φ : HI → HL → Prop) (ew eW eb el eu ey ez : Int32) (h3 : hi 10 3 = 22) (h6 : hi 13 6 = 3) (h7 : hi 13 7 = 2) (h8 : hi 13 8 = 0) (z14 : ∀ j, 2 ≤ j → j < 6 → hl 14 j = 0) (z15 : ∀ j, 0 ≤ j → j < 6 → hl 15 j = 0) (z17 : ∀ j, j < 6 → hl 17 j = 0)
    (h : ∀ hl', (∀ c, (c < 14 ∨ 19 < c) → hl' c = hl c) → (∀ σ, σ < 64 → ∀ j, j < 3 → bt (hl' 17 j) σ = (opM 22 ew eW eb el eu (nI (lvb (fun j => bt (hl 14 j) σ) 2)) ey ez).toNatClampNeg.testBit j) → Φ hi hl') : wpG_join hi hl Φ := by
  have hv : vp_in (22 : Int32) 31 := vp31 22 (by decide)
  have e : swC (22 : Int32).toNatClampNeg = 20 := by decide
  have e2 : swC 22 = 20 := by decide
  unfold wpG_join wbG_join_0
  rw [h3, e]
  simp (decide := true) only [false_implies, true_implies, and_true, true_and, not_true, not_false_eq_true, hv]
  unfold wpG_arrange wbG_arrange_0
  refine ⟨by decide, ⟨4, ?_⟩⟩
  simp [wbG_arrange_9, wbG_arrange_93, wbG_arrange_138, wbG_arrange_118, wbG_arrange_234, wbG_arrange_250, wpG_choose, wbG_choose_0, hv, e2, h6, h7, h8, u2_ap, vp_in]
  refine h _ (fun c hc => ?_) (fun σ hσ j hj => ?_)
  · funext b
    simp only [u2_ap, cpL_ap]
    repeat rw [if_neg (by omega)]
  · have hc : j = 0 ∨ j = 1 ∨ j = 2 := by omega
    rcases hc with rfl | rfl | rfl
    · simp (decide := true) only [opM, ↓reduceIte]
      simp [u2_ap, cpL_ap, va_cpy, bt_xor, bt_and, bt_or, bt_0, bt_m1 hσ, bt_cm hσ, lvb, z14 2 (by decide) (by decide), z14 3 (by decide) (by decide), z14 4 (by decide) (by decide), z14 5 (by decide) (by decide), z15 0 (by decide) (by decide), z15 1 (by decide) (by decide), z15 2 (by decide) (by decide), z15 3 (by decide) (by decide), z15 4 (by decide) (by decide), z15 5 (by decide) (by decide), z17 0 (by decide), z17 1 (by decide), z17 2 (by decide), z17 3 (by decide), z17 4 (by decide), z17 5 (by decide)]
      generalize bt (hl 14 0) σ = a0
      generalize bt (hl 14 1) σ = a1
      revert a0 a1
      decide +kernel
    · simp (decide := true) only [opM, ↓reduceIte]
      simp [u2_ap, cpL_ap, va_cpy, bt_xor, bt_and, bt_or, bt_0, bt_m1 hσ, bt_cm hσ, lvb, z14 2 (by decide) (by decide), z14 3 (by decide) (by decide), z14 4 (by decide) (by decide), z14 5 (by decide) (by decide), z15 0 (by decide) (by decide), z15 1 (by decide) (by decide), z15 2 (by decide) (by decide), z15 3 (by decide) (by decide), z15 4 (by decide) (by decide), z15 5 (by decide) (by decide), z17 0 (by decide), z17 1 (by decide), z17 2 (by decide), z17 3 (by decide), z17 4 (by decide), z17 5 (by decide)]
      generalize bt (hl 14 0) σ = a0
      generalize bt (hl 14 1) σ = a1
      revert a0 a1
      decide +kernel
    · simp (decide := true) only [opM, ↓reduceIte]
      simp [u2_ap, cpL_ap, va_cpy, bt_xor, bt_and, bt_or, bt_0, bt_m1 hσ, bt_cm hσ, lvb, z14 2 (by decide) (by decide), z14 3 (by decide) (by decide), z14 4 (by decide) (by decide), z14 5 (by decide) (by decide), z15 0 (by decide) (by decide), z15 1 (by decide) (by decide), z15 2 (by decide) (by decide), z15 3 (by decide) (by decide), z15 4 (by decide) (by decide), z15 5 (by decide) (by decide), z17 0 (by decide), z17 1 (by decide), z17 2 (by decide), z17 3 (by decide), z17 4 (by decide), z17 5 (by decide)]
      generalize bt (hl 14 0) σ = a0
      generalize bt (hl 14 1) σ = a1
      revert a0 a1
      decide +kernel
theorem jn_23_3_2_0 (hi : HI) (hl : HL) (Φ : HI → HL → Prop) (eb el eu ey ez : Int32) (h3 : hi 10 3 = 23) (h6 : hi 13 6 = 3) (h7 : hi 13 7 = 2) (h8 : hi 13 8 = 0) (z14 : ∀ j, 2 ≤ j → j < 6 → hl 14 j = 0) (z15 : ∀ j, 0 ≤ j → j < 6 → hl 15 j = 0) (z17 : ∀ j, j < 6 → hl 17 j = 0)
    (h : ∀ hl', (∀ c, (c < 14 ∨ 19 < c) → hl' c = hl c) → (∀ σ, σ < 64 → ∀ j, j < 3 → bt (hl' 17 j) σ = (opM 23 (nI 3) (nI 2) eb el eu (nI (lvb (fun j => bt (hl 14 j) σ) 2)) ey ez).toNatClampNeg.testBit j) → Φ hi hl') : wpG_join hi hl Φ := by
  have hv : vp_in (23 : Int32) 31 := vp31 23 (by decide)
  have e : swC (23 : Int32).toNatClampNeg = 21 := by decide
  have e2 : swC 23 = 21 := by decide
  unfold wpG_join wbG_join_0
  rw [h3, e]
  simp (decide := true) only [false_implies, true_implies, and_true, true_and, not_true, not_false_eq_true, hv]
  unfold wpG_arrange wbG_arrange_0
  refine ⟨by decide, ⟨4, ?_⟩⟩
  simp [wbG_arrange_9, wbG_arrange_93, wbG_arrange_138, wbG_arrange_118, wbG_arrange_234, wbG_arrange_250, wpG_choose, wbG_choose_0, hv, e2, h6, h7, h8, u2_ap, vp_in]
  refine h _ (fun c hc => ?_) (fun σ hσ j hj => ?_)
  · funext b
    simp only [u2_ap, cpL_ap]
    repeat rw [if_neg (by omega)]
  · have hc : j = 0 ∨ j = 1 ∨ j = 2 := by omega
    rcases hc with rfl | rfl | rfl
    · simp (decide := true) only [opM, ↓reduceIte]
      simp [u2_ap, cpL_ap, va_cpy, bt_xor, bt_and, bt_or, bt_0, bt_m1 hσ, bt_cm hσ, lvb, z14 2 (by decide) (by decide), z14 3 (by decide) (by decide), z14 4 (by decide) (by decide), z14 5 (by decide) (by decide), z15 0 (by decide) (by decide), z15 1 (by decide) (by decide), z15 2 (by decide) (by decide), z15 3 (by decide) (by decide), z15 4 (by decide) (by decide), z15 5 (by decide) (by decide), z17 0 (by decide), z17 1 (by decide), z17 2 (by decide), z17 3 (by decide), z17 4 (by decide), z17 5 (by decide)]
      generalize bt (hl 14 0) σ = a0
      generalize bt (hl 14 1) σ = a1
      revert a0 a1
      decide +kernel
    · simp (decide := true) only [opM, ↓reduceIte]
      simp [u2_ap, cpL_ap, va_cpy, bt_xor, bt_and, bt_or, bt_0, bt_m1 hσ, bt_cm hσ, lvb, z14 2 (by decide) (by decide), z14 3 (by decide) (by decide), z14 4 (by decide) (by decide), z14 5 (by decide) (by decide), z15 0 (by decide) (by decide), z15 1 (by decide) (by decide), z15 2 (by decide) (by decide), z15 3 (by decide) (by decide), z15 4 (by decide) (by decide), z15 5 (by decide) (by decide), z17 0 (by decide), z17 1 (by decide), z17 2 (by decide), z17 3 (by decide), z17 4 (by decide), z17 5 (by decide)]
      generalize bt (hl 14 0) σ = a0
      generalize bt (hl 14 1) σ = a1
      revert a0 a1
      decide +kernel
    · simp (decide := true) only [opM, ↓reduceIte]
      simp [u2_ap, cpL_ap, va_cpy, bt_xor, bt_and, bt_or, bt_0, bt_m1 hσ, bt_cm hσ, lvb, z14 2 (by decide) (by decide), z14 3 (by decide) (by decide), z14 4 (by decide) (by decide), z14 5 (by decide) (by decide), z15 0 (by decide) (by decide), z15 1 (by decide) (by decide), z15 2 (by decide) (by decide), z15 3 (by decide) (by decide), z15 4 (by decide) (by decide), z15 5 (by decide) (by decide), z17 0 (by decide), z17 1 (by decide), z17 2 (by decide), z17 3 (by decide), z17 4 (by decide), z17 5 (by decide)]
      generalize bt (hl 14 0) σ = a0
      generalize bt (hl 14 1) σ = a1
      revert a0 a1
      decide +kernel
theorem jn_22_3_3_0 (hi : HI) (hl : HL) (Φ : HI → HL → Prop) (ew eW eb el eu ey ez : Int32) (h3 : hi 10 3 = 22) (h6 : hi 13 6 = 3) (h7 : hi 13 7 = 3) (h8 : hi 13 8 = 0) (z14 : ∀ j, 3 ≤ j → j < 6 → hl 14 j = 0) (z15 : ∀ j, 0 ≤ j → j < 6 → hl 15 j = 0) (z17 : ∀ j, j < 6 → hl 17 j = 0)
    (h : ∀ hl', (∀ c, (c < 14 ∨ 19 < c) → hl' c = hl c) → (∀ σ, σ < 64 → ∀ j, j < 3 → bt (hl' 17 j) σ = (opM 22 ew eW eb el eu (nI (lvb (fun j => bt (hl 14 j) σ) 3)) ey ez).toNatClampNeg.testBit j) → Φ hi hl') : wpG_join hi hl Φ := by
  have hv : vp_in (22 : Int32) 31 := vp31 22 (by decide)
  have e : swC (22 : Int32).toNatClampNeg = 20 := by decide
  have e2 : swC 22 = 20 := by decide
  unfold wpG_join wbG_join_0
  rw [h3, e]
  simp (decide := true) only [false_implies, true_implies, and_true, true_and, not_true, not_false_eq_true, hv]
  unfold wpG_arrange wbG_arrange_0
  refine ⟨by decide, ⟨4, ?_⟩⟩
  simp [wbG_arrange_9, wbG_arrange_93, wbG_arrange_138, wbG_arrange_118, wbG_arrange_234, wbG_arrange_250, wpG_choose, wbG_choose_0, hv, e2, h6, h7, h8, u2_ap, vp_in]
  refine h _ (fun c hc => ?_) (fun σ hσ j hj => ?_)
  · funext b
    simp only [u2_ap, cpL_ap]
    repeat rw [if_neg (by omega)]
  · have hc : j = 0 ∨ j = 1 ∨ j = 2 := by omega
    rcases hc with rfl | rfl | rfl
    · simp (decide := true) only [opM, ↓reduceIte]
      simp [u2_ap, cpL_ap, va_cpy, bt_xor, bt_and, bt_or, bt_0, bt_m1 hσ, bt_cm hσ, lvb, z14 3 (by decide) (by decide), z14 4 (by decide) (by decide), z14 5 (by decide) (by decide), z15 0 (by decide) (by decide), z15 1 (by decide) (by decide), z15 2 (by decide) (by decide), z15 3 (by decide) (by decide), z15 4 (by decide) (by decide), z15 5 (by decide) (by decide), z17 0 (by decide), z17 1 (by decide), z17 2 (by decide), z17 3 (by decide), z17 4 (by decide), z17 5 (by decide)]
      generalize bt (hl 14 0) σ = a0
      generalize bt (hl 14 1) σ = a1
      generalize bt (hl 14 2) σ = a2
      revert a0 a1 a2
      decide +kernel
    · simp (decide := true) only [opM, ↓reduceIte]
      simp [u2_ap, cpL_ap, va_cpy, bt_xor, bt_and, bt_or, bt_0, bt_m1 hσ, bt_cm hσ, lvb, z14 3 (by decide) (by decide), z14 4 (by decide) (by decide), z14 5 (by decide) (by decide), z15 0 (by decide) (by decide), z15 1 (by decide) (by decide), z15 2 (by decide) (by decide), z15 3 (by decide) (by decide), z15 4 (by decide) (by decide), z15 5 (by decide) (by decide), z17 0 (by decide), z17 1 (by decide), z17 2 (by decide), z17 3 (by decide), z17 4 (by decide), z17 5 (by decide)]
      generalize bt (hl 14 0) σ = a0
      generalize bt (hl 14 1) σ = a1
      generalize bt (hl 14 2) σ = a2
      revert a0 a1 a2
      decide +kernel
    · simp (decide := true) only [opM, ↓reduceIte]
      simp [u2_ap, cpL_ap, va_cpy, bt_xor, bt_and, bt_or, bt_0, bt_m1 hσ, bt_cm hσ, lvb, z14 3 (by decide) (by decide), z14 4 (by decide) (by decide), z14 5 (by decide) (by decide), z15 0 (by decide) (by decide), z15 1 (by decide) (by decide), z15 2 (by decide) (by decide), z15 3 (by decide) (by decide), z15 4 (by decide) (by decide), z15 5 (by decide) (by decide), z17 0 (by decide), z17 1 (by decide), z17 2 (by decide), z17 3 (by decide), z17 4 (by decide), z17 5 (by decide)]
      generalize bt (hl 14 0) σ = a0
      generalize bt (hl 14 1) σ = a1
      generalize bt (hl 14 2) σ = a2
      revert a0 a1 a2
      decide +kernel
theorem jn_23_3_3_0 (hi : HI) (hl : HL) (Φ : HI → HL → Prop) (eb el eu ey ez : Int32) (h3 : hi 10 3 = 23) (h6 : hi 13 6 = 3) (h7 : hi 13 7 = 3) (h8 : hi 13 8 = 0) (z14 : ∀ j, 3 ≤ j → j < 6 → hl 14 j = 0) (z15 : ∀ j, 0 ≤ j → j < 6 → hl 15 j = 0) (z17 : ∀ j, j < 6 → hl 17 j = 0)
    (h : ∀ hl', (∀ c, (c < 14 ∨ 19 < c) → hl' c = hl c) → (∀ σ, σ < 64 → ∀ j, j < 3 → bt (hl' 17 j) σ = (opM 23 (nI 3) (nI 3) eb el eu (nI (lvb (fun j => bt (hl 14 j) σ) 3)) ey ez).toNatClampNeg.testBit j) → Φ hi hl') : wpG_join hi hl Φ := by
  have hv : vp_in (23 : Int32) 31 := vp31 23 (by decide)
  have e : swC (23 : Int32).toNatClampNeg = 21 := by decide
  have e2 : swC 23 = 21 := by decide
  unfold wpG_join wbG_join_0
  rw [h3, e]
  simp (decide := true) only [false_implies, true_implies, and_true, true_and, not_true, not_false_eq_true, hv]
  unfold wpG_arrange wbG_arrange_0
  refine ⟨by decide, ⟨4, ?_⟩⟩
  simp [wbG_arrange_9, wbG_arrange_93, wbG_arrange_138, wbG_arrange_118, wbG_arrange_234, wbG_arrange_250, wpG_choose, wbG_choose_0, hv, e2, h6, h7, h8, u2_ap, vp_in]
  refine h _ (fun c hc => ?_) (fun σ hσ j hj => ?_)
  · funext b
    simp only [u2_ap, cpL_ap]
    repeat rw [if_neg (by omega)]
  · have hc : j = 0 ∨ j = 1 ∨ j = 2 := by omega
    rcases hc with rfl | rfl | rfl
    · simp (decide := true) only [opM, ↓reduceIte]
      simp [u2_ap, cpL_ap, va_cpy, bt_xor, bt_and, bt_or, bt_0, bt_m1 hσ, bt_cm hσ, lvb, z14 3 (by decide) (by decide), z14 4 (by decide) (by decide), z14 5 (by decide) (by decide), z15 0 (by decide) (by decide), z15 1 (by decide) (by decide), z15 2 (by decide) (by decide), z15 3 (by decide) (by decide), z15 4 (by decide) (by decide), z15 5 (by decide) (by decide), z17 0 (by decide), z17 1 (by decide), z17 2 (by decide), z17 3 (by decide), z17 4 (by decide), z17 5 (by decide)]
      generalize bt (hl 14 0) σ = a0
      generalize bt (hl 14 1) σ = a1
      generalize bt (hl 14 2) σ = a2
      revert a0 a1 a2
      decide +kernel
    · simp (decide := true) only [opM, ↓reduceIte]
      simp [u2_ap, cpL_ap, va_cpy, bt_xor, bt_and, bt_or, bt_0, bt_m1 hσ, bt_cm hσ, lvb, z14 3 (by decide) (by decide), z14 4 (by decide) (by decide), z14 5 (by decide) (by decide), z15 0 (by decide) (by decide), z15 1 (by decide) (by decide), z15 2 (by decide) (by decide), z15 3 (by decide) (by decide), z15 4 (by decide) (by decide), z15 5 (by decide) (by decide), z17 0 (by decide), z17 1 (by decide), z17 2 (by decide), z17 3 (by decide), z17 4 (by decide), z17 5 (by decide)]
      generalize bt (hl 14 0) σ = a0
      generalize bt (hl 14 1) σ = a1
      generalize bt (hl 14 2) σ = a2
      revert a0 a1 a2
      decide +kernel
    · simp (decide := true) only [opM, ↓reduceIte]
      simp [u2_ap, cpL_ap, va_cpy, bt_xor, bt_and, bt_or, bt_0, bt_m1 hσ, bt_cm hσ, lvb, z14 3 (by decide) (by decide), z14 4 (by decide) (by decide), z14 5 (by decide) (by decide), z15 0 (by decide) (by decide), z15 1 (by decide) (by decide), z15 2 (by decide) (by decide), z15 3 (by decide) (by decide), z15 4 (by decide) (by decide), z15 5 (by decide) (by decide), z17 0 (by decide), z17 1 (by decide), z17 2 (by decide), z17 3 (by decide), z17 4 (by decide), z17 5 (by decide)]
      generalize bt (hl 14 0) σ = a0
      generalize bt (hl 14 1) σ = a1
      generalize bt (hl 14 2) σ = a2
      revert a0 a1 a2
      decide +kernel
