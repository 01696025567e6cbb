/-! gates: division (printed by wip/whole/pure/divide.py) -/
theorem pG_clear (v : Nat) (hi : HI) (hl : HL) (Φ : HI → HL → Prop) (h : ∀ hl', (∀ c, c ≠ 14 + v → hl' c = hl c) → (∀ j, j < 6 → hl' (14 + v) j = 0) → Φ hi hl') : wpG_clear v hi hl Φ := by
  unfold wpG_clear wbG_clear_0
  refine loop_0 (fun fu i (s : HL) => wbG_clear_2 fu v (nI i) hi s Φ) (fun i s => (∀ c, c ≠ 14 + v → s c = hl c) ∧ ∀ j, j < i → s (14 + v) j = 0) 6 hl ⟨fun _ _ => rfl, fun j hj => absurd hj (by omega)⟩ (fun m s hs => ?_) (fun m i s hi2 hs ih => ?_)
  · unfold wbG_clear_2
    exact br_t (by decide) (h s hs.1 hs.2)
  · unfold wbG_clear_2
    rw [nI_clamp (by omega), nI_n1, nI_1]
    refine br_f (nI_ge (b := 6) hi2 (by omega)) ⟨vp_in_nI (by omega) (by omega), ih _ ⟨fun c hc => ?_, fun j hj => ?_⟩⟩
    · rw [u2_cf _ _ _ hc]; exact hs.1 c hc
    · by_cases z : j = i
      · subst z; rw [u2_s]
      · rw [u2_j _ _ _ _ z]; exact hs.2 j (by omega)
theorem ta_1 (hi : HI) (hl : HL) (Φ : Int64 → HI → HL → Prop) (h6 : hi 13 6 = 1)
    (h : ∀ r hl', (∀ c, c ≠ 18 → c ≠ 19 → hl' c = hl c) → (∀ σ, σ < 64 → bt r σ = decide (lvb (fun j => bt (hl 15 j) σ) 1 ≤ lvb (fun j => bt (hl 18 j) σ) 1)) → (∀ σ, σ < 64 → ∀ j, j < 1 → bt (hl' 18 j) σ = (if lvb (fun j => bt (hl 15 j) σ) 1 ≤ lvb (fun j => bt (hl 18 j) σ) 1 then lvb (fun j => bt (hl 18 j) σ) 1 - lvb (fun j => bt (hl 15 j) σ) 1 else lvb (fun j => bt (hl 18 j) σ) 1).testBit j) → Φ r hi hl') : wpG_takeAway hi hl Φ := by
  unfold wpG_takeAway wbG_takeAway_0
  refine ⟨2, ?_⟩
  simp [wbG_takeAway_4, h6, u2_ap, vp_in]
  refine ⟨2, ?_⟩
  simp [wbG_takeAway_64, h6, u2_ap, vp_in]
  refine h _ _ (fun c hc1 hc2 => ?_) (fun σ hσ => ?_) (fun σ hσ j hj => ?_)
  · funext b
    simp only [u2_ap]
    repeat rw [if_neg (by omega)]
  · simp [u2_ap, bt_xor, bt_and, bt_or, bt_0, bt_m1 hσ, bt_cm hσ, lvb]
    generalize bt (hl 15 0) σ = b0
    generalize bt (hl 18 0) σ = r0
    revert b0 r0
    decide +kernel
  · have hc : j = 0 := by omega
    subst hc
    · simp [u2_ap, bt_xor, bt_and, bt_or, bt_0, bt_m1 hσ, bt_cm hσ, lvb]
      generalize bt (hl 15 0) σ = b0
      generalize bt (hl 18 0) σ = r0
      revert b0 r0
      decide +kernel
theorem ta_2 (hi : HI) (hl : HL) (Φ : Int64 → HI → HL → Prop) (h6 : hi 13 6 = 2)
    (h : ∀ r hl', (∀ c, c ≠ 18 → c ≠ 19 → hl' c = hl c) → (∀ σ, σ < 64 → bt r σ = decide (lvb (fun j => bt (hl 15 j) σ) 2 ≤ lvb (fun j => bt (hl 18 j) σ) 2)) → (∀ σ, σ < 64 → ∀ j, j < 2 → bt (hl' 18 j) σ = (if lvb (fun j => bt (hl 15 j) σ) 2 ≤ lvb (fun j => bt (hl 18 j) σ) 2 then lvb (fun j => bt (hl 18 j) σ) 2 - lvb (fun j => bt (hl 15 j) σ) 2 else lvb (fun j => bt (hl 18 j) σ) 2).testBit j) → Φ r hi hl') : wpG_takeAway hi hl Φ := by
  unfold wpG_takeAway wbG_takeAway_0
  refine ⟨3, ?_⟩
  simp [wbG_takeAway_4, h6, u2_ap, vp_in]
  refine ⟨3, ?_⟩
  simp [wbG_takeAway_64, h6, u2_ap, vp_in]
  refine h _ _ (fun c hc1 hc2 => ?_) (fun σ hσ => ?_) (fun σ hσ j hj => ?_)
  · funext b
    simp only [u2_ap]
    repeat rw [if_neg (by omega)]
  · simp [u2_ap, bt_xor, bt_and, bt_or, bt_0, bt_m1 hσ, bt_cm hσ, lvb]
    generalize bt (hl 15 0) σ = b0
    generalize bt (hl 15 1) σ = b1
    generalize bt (hl 18 0) σ = r0
    generalize bt (hl 18 1) σ = r1
    revert b0 b1 r0 r1
    decide +kernel
  · have hc : j = 0 ∨ j = 1 := by omega
    rcases hc with rfl | rfl
    · simp [u2_ap, bt_xor, bt_and, bt_or, bt_0, bt_m1 hσ, bt_cm hσ, lvb]
      generalize bt (hl 15 0) σ = b0
      generalize bt (hl 15 1) σ = b1
      generalize bt (hl 18 0) σ = r0
      generalize bt (hl 18 1) σ = r1
      revert b0 b1 r0 r1
      decide +kernel
    · simp [u2_ap, bt_xor, bt_and, bt_or, bt_0, bt_m1 hσ, bt_cm hσ, lvb]
      generalize bt (hl 15 0) σ = b0
      generalize bt (hl 15 1) σ = b1
      generalize bt (hl 18 0) σ = r0
      generalize bt (hl 18 1) σ = r1
      revert b0 b1 r0 r1
      decide +kernel
theorem ta_3 (hi : HI) (hl : HL) (Φ : Int64 → HI → HL → Prop) (h6 : hi 13 6 = 3)
    (h : ∀ r hl', (∀ c, c ≠ 18 → c ≠ 19 → hl' c = hl c) → (∀ σ, σ < 64 → bt r σ = decide (lvb (fun j => bt (hl 15 j) σ) 3 ≤ lvb (fun j => bt (hl 18 j) σ) 3)) → (∀ σ, σ < 64 → ∀ j, j < 3 → bt (hl' 18 j) σ = (if lvb (fun j => bt (hl 15 j) σ) 3 ≤ lvb (fun j => bt (hl 18 j) σ) 3 then lvb (fun j => bt (hl 18 j) σ) 3 - lvb (fun j => bt (hl 15 j) σ) 3 else lvb (fun j => bt (hl 18 j) σ) 3).testBit j) → Φ r hi hl') : wpG_takeAway hi hl Φ := by
  unfold wpG_takeAway wbG_takeAway_0
  refine ⟨4, ?_⟩
  simp [wbG_takeAway_4, h6, u2_ap, vp_in]
  refine ⟨4, ?_⟩
  simp [wbG_takeAway_64, h6, u2_ap, vp_in]
  refine h _ _ (fun c hc1 hc2 => ?_) (fun σ hσ => ?_) (fun σ hσ j hj => ?_)
  · funext b
    simp only [u2_ap]
    repeat rw [if_neg (by omega)]
  · simp [u2_ap, bt_xor, bt_and, bt_or, bt_0, bt_m1 hσ, bt_cm hσ, lvb]
    generalize bt (hl 15 0) σ = b0
    generalize bt (hl 15 1) σ = b1
    generalize bt (hl 15 2) σ = b2
    generalize bt (hl 18 0) σ = r0
    generalize bt (hl 18 1) σ = r1
    generalize bt (hl 18 2) σ = r2
    revert b0 b1 b2 r0 r1 r2
    decide +kernel
  · have hc : j = 0 ∨ j = 1 ∨ j = 2 := by omega
    rcases hc with rfl | rfl | rfl
    · simp [u2_ap, bt_xor, bt_and, bt_or, bt_0, bt_m1 hσ, bt_cm hσ, lvb]
      generalize bt (hl 15 0) σ = b0
      generalize bt (hl 15 1) σ = b1
      generalize bt (hl 15 2) σ = b2
      generalize bt (hl 18 0) σ = r0
      generalize bt (hl 18 1) σ = r1
      generalize bt (hl 18 2) σ = r2
      revert b0 b1 b2 r0 r1 r2
      decide +kernel
    · simp [u2_ap, bt_xor, bt_and, bt_or, bt_0, bt_m1 hσ, bt_cm hσ, lvb]
      generalize bt (hl 15 0) σ = b0
      generalize bt (hl 15 1) σ = b1
      generalize bt (hl 15 2) σ = b2
      generalize bt (hl 18 0) σ = r0
      generalize bt (hl 18 1) σ = r1
      generalize bt (hl 18 2) σ = r2
      revert b0 b1 b2 r0 r1 r2
      decide +kernel
    · simp [u2_ap, bt_xor, bt_and, bt_or, bt_0, bt_m1 hσ, bt_cm hσ, lvb]
      generalize bt (hl 15 0) σ = b0
      generalize bt (hl 15 1) σ = b1
      generalize bt (hl 15 2) σ = b2
      generalize bt (hl 18 0) σ = r0
      generalize bt (hl 18 1) σ = r1
      generalize bt (hl 18 2) σ = r2
      revert b0 b1 b2 r0 r1 r2
      decide +kernel
theorem jn_13_1 (hi : HI) (hl : HL) (Φ : HI → HL → Prop) (eW eb el eu ez : Int32) (h3 : hi 10 3 = 13) (h6 : hi 13 6 = 1)
    (h : ∀ hl', (∀ c, (c < 14 ∨ 19 < c) → hl' c = hl c) → (∀ σ, σ < 64 → ∀ j, j < 1 → bt (hl' 17 j) σ = (opM 13 (nI 1) eW eb el eu (nI (lvb (fun j => bt (hl 14 j) σ) 1)) (nI (lvb (fun j => bt (hl 15 j) σ) 1)) ez).toNatClampNeg.testBit j) → Φ hi hl') : wpG_join hi hl Φ := by
  have hv : vp_in (13 : Int32) 31 := vp31 13 (by decide)
  have hv14 : vp_in (14 : Int32) 31 := vp31 14 (by decide)
  have e : swC (13 : Int32).toNatClampNeg = 28 := by decide
  unfold wpG_join wbG_join_0
  rw [h3, e]
  simp (decide := true) only [false_implies, true_implies, and_true, true_and, not_true, not_false_eq_true, hv]
  unfold wpG_reckon wbG_reckon_0
  rw [e]
  simp (decide := true) only [false_implies, true_implies, and_true, true_and, not_true, not_false_eq_true, hv, hv14]
  unfold wbG_reckon_124 wpG_divide wbG_divide_0
  refine pG_clear 4 hi hl _ (fun hl0 g0 z0 => ?_)
  have e14 : hl0 14 = hl 14 := g0 14 (by decide)
  have e15 : hl0 15 = hl 15 := g0 15 (by decide)
  have z18 : ∀ j, j < 6 → hl0 18 j = 0 := z0
  refine ⟨2, ?_⟩
  rw [h6]
  rw [wbG_divide_14]
  refine br_f (by decide) ⟨2, ?_⟩
  simp [wbG_divide_25, h6, u2_ap, vp_in]
  refine ta_1 hi _ _ h6 (fun r1 hl1 f1 p1 q1 => ?_)
  rw [wbG_divide_14]
  refine br_t (by decide) ?_
  refine br_t (by decide) ?_
  refine h _ (fun c hc => ?_) (fun σ hσ j hj => ?_)
  · funext b
    simp only [u2_ap, cpL_ap]
    repeat rw [if_neg (by omega)]
    rw [f1 c (by omega) (by omega)]
    simp only [u2_ap]
    repeat rw [if_neg (by omega)]
    rw [g0 c (by omega)]
  · simp (decide := true) only [opM, ↓reduceIte]
    have hc : j = 0 := by omega
    subst hc
    · simp [u2_ap, cpL_ap, va_cpy, bt_0, lvb, e14, e15, hσ, z18 0 (by decide), z18 1 (by decide), z18 2 (by decide), z18 3 (by decide), z18 4 (by decide), z18 5 (by decide), f1 14 (by decide) (by decide), f1 15 (by decide) (by decide), f1 17 (by decide) (by decide), p1 σ hσ, q1 σ hσ]
      generalize bt (hl 14 0) σ = a0
      generalize bt (hl 15 0) σ = b0
      revert a0 b0
      decide +kernel
theorem jn_13_2 (hi : HI) (hl : HL) (Φ : HI → HL → Prop) (eW eb el eu ez : Int32) (h3 : hi 10 3 = 13) (h6 : hi 13 6 = 2)
    (h : ∀ hl', (∀ c, (c < 14 ∨ 19 < c) → hl' c = hl c) → (∀ σ, σ < 64 → ∀ j, j < 2 → bt (hl' 17 j) σ = (opM 13 (nI 2) eW eb el eu (nI (lvb (fun j => bt (hl 14 j) σ) 2)) (nI (lvb (fun j => bt (hl 15 j) σ) 2)) ez).toNatClampNeg.testBit j) → Φ hi hl') : wpG_join hi hl Φ := by
  have hv : vp_in (13 : Int32) 31 := vp31 13 (by decide)
  have hv14 : vp_in (14 : Int32) 31 := vp31 14 (by decide)
  have e : swC (13 : Int32).toNatClampNeg = 28 := by decide
  unfold wpG_join wbG_join_0
  rw [h3, e]
  simp (decide := true) only [false_implies, true_implies, and_true, true_and, not_true, not_false_eq_true, hv]
  unfold wpG_reckon wbG_reckon_0
  rw [e]
  simp (decide := true) only [false_implies, true_implies, and_true, true_and, not_true, not_false_eq_true, hv, hv14]
  unfold wbG_reckon_124 wpG_divide wbG_divide_0
  refine pG_clear 4 hi hl _ (fun hl0 g0 z0 => ?_)
  have e14 : hl0 14 = hl 14 := g0 14 (by decide)
  have e15 : hl0 15 = hl 15 := g0 15 (by decide)
  have z18 : ∀ j, j < 6 → hl0 18 j = 0 := z0
  refine ⟨3, ?_⟩
  rw [h6]
  rw [wbG_divide_14]
  refine br_f (by decide) ⟨3, ?_⟩
  simp [wbG_divide_25, h6, u2_ap, vp_in]
  refine ta_2 hi _ _ h6 (fun r1 hl1 f1 p1 q1 => ?_)
  rw [wbG_divide_14]
  refine br_f (by decide) ⟨3, ?_⟩
  simp [wbG_divide_25, h6, u2_ap, vp_in]
  refine ta_2 hi _ _ h6 (fun r2 hl2 f2 p2 q2 => ?_)
  rw [wbG_divide_14]
  refine br_t (by decide) ?_
  refine br_t (by decide) ?_
  refine h _ (fun c hc => ?_) (fun σ hσ j hj => ?_)
  · funext b
    simp only [u2_ap, cpL_ap]
    repeat rw [if_neg (by omega)]
    rw [f2 c (by omega) (by omega)]
    simp only [u2_ap]
    repeat rw [if_neg (by omega)]
    rw [f1 c (by omega) (by omega)]
    simp only [u2_ap]
    repeat rw [if_neg (by omega)]
    rw [g0 c (by omega)]
  · simp (decide := true) only [opM, ↓reduceIte]
    have hc : j = 0 ∨ j = 1 := by omega
    rcases hc with rfl | rfl
    · simp [u2_ap, cpL_ap, va_cpy, bt_0, lvb, e14, e15, hσ, z18 0 (by decide), z18 1 (by decide), z18 2 (by decide), z18 3 (by decide), z18 4 (by decide), z18 5 (by decide), f1 14 (by decide) (by decide), f1 15 (by decide) (by decide), f1 17 (by decide) (by decide), p1 σ hσ, q1 σ hσ, f2 14 (by decide) (by decide), f2 15 (by decide) (by decide), f2 17 (by decide) (by decide), p2 σ hσ, q2 σ hσ]
      generalize bt (hl 14 0) σ = a0
      generalize bt (hl 14 1) σ = a1
      generalize bt (hl 15 0) σ = b0
      generalize bt (hl 15 1) σ = b1
      revert a0 a1 b0 b1
      decide +kernel
    · simp [u2_ap, cpL_ap, va_cpy, bt_0, lvb, e14, e15, hσ, z18 0 (by decide), z18 1 (by decide), z18 2 (by decide), z18 3 (by decide), z18 4 (by decide), z18 5 (by decide), f1 14 (by decide) (by decide), f1 15 (by decide) (by decide), f1 17 (by decide) (by decide), p1 σ hσ, q1 σ hσ, f2 14 (by decide) (by decide), f2 15 (by decide) (by decide), f2 17 (by decide) (by decide), p2 σ hσ, q2 σ hσ]
      generalize bt (hl 14 0) σ = a0
      generalize bt (hl 14 1) σ = a1
      generalize bt (hl 15 0) σ = b0
      generalize bt (hl 15 1) σ = b1
      revert a0 a1 b0 b1
      decide +kernel
theorem jn_13_3 (hi : HI) (hl : HL) (Φ : HI → HL → Prop) (eW eb el eu ez : Int32) (h3 : hi 10 3 = 13) (h6 : hi 13 6 = 3)
    (h : ∀ hl', (∀ c, (c < 14 ∨ 19 < c) → hl' c = hl c) → (∀ σ, σ < 64 → ∀ j, j < 3 → bt (hl' 17 j) σ = (opM 13 (nI 3) eW eb el eu (nI (lvb (fun j => bt (hl 14 j) σ) 3)) (nI (lvb (fun j => bt (hl 15 j) σ) 3)) ez).toNatClampNeg.testBit j) → Φ hi hl') : wpG_join hi hl Φ := by
  have hv : vp_in (13 : Int32) 31 := vp31 13 (by decide)
  have hv14 : vp_in (14 : Int32) 31 := vp31 14 (by decide)
  have e : swC (13 : Int32).toNatClampNeg = 28 := by decide
  unfold wpG_join wbG_join_0
  rw [h3, e]
  simp (decide := true) only [false_implies, true_implies, and_true, true_and, not_true, not_false_eq_true, hv]
  unfold wpG_reckon wbG_reckon_0
  rw [e]
  simp (decide := true) only [false_implies, true_implies, and_true, true_and, not_true, not_false_eq_true, hv, hv14]
  unfold wbG_reckon_124 wpG_divide wbG_divide_0
  refine pG_clear 4 hi hl _ (fun hl0 g0 z0 => ?_)
  have e14 : hl0 14 = hl 14 := g0 14 (by decide)
  have e15 : hl0 15 = hl 15 := g0 15 (by decide)
  have z18 : ∀ j, j < 6 → hl0 18 j = 0 := z0
  refine ⟨4, ?_⟩
  rw [h6]
  rw [wbG_divide_14]
  refine br_f (by decide) ⟨4, ?_⟩
  simp [wbG_divide_25, h6, u2_ap, vp_in]
  refine ta_3 hi _ _ h6 (fun r1 hl1 f1 p1 q1 => ?_)
  rw [wbG_divide_14]
  refine br_f (by decide) ⟨4, ?_⟩
  simp [wbG_divide_25, h6, u2_ap, vp_in]
  refine ta_3 hi _ _ h6 (fun r2 hl2 f2 p2 q2 => ?_)
  rw [wbG_divide_14]
  refine br_f (by decide) ⟨4, ?_⟩
  simp [wbG_divide_25, h6, u2_ap, vp_in]
  refine ta_3 hi _ _ h6 (fun r3 hl3 f3 p3 q3 => ?_)
  rw [wbG_divide_14]
  refine br_t (by decide) ?_
  refine br_t (by decide) ?_
  refine h _ (fun c hc => ?_) (fun σ hσ j hj => ?_)
  · funext b
    simp only [u2_ap, cpL_ap]
    repeat rw [if_neg (by omega)]
    rw [f3 c (by omega) (by omega)]
    simp only [u2_ap]
    repeat rw [if_neg (by omega)]
    rw [f2 c (by omega) (by omega)]
    simp only [u2_ap]
    repeat rw [if_neg (by omega)]
    rw [f1 c (by omega) (by omega)]
    simp only [u2_ap]
    repeat rw [if_neg (by omega)]
    rw [g0 c (by omega)]
  · simp (decide := true) only [opM, ↓reduceIte]
    have hc : j = 0 ∨ j = 1 ∨ j = 2 := by omega
    rcases hc with rfl | rfl | rfl
    · simp [u2_ap, cpL_ap, va_cpy, bt_0, lvb, e14, e15, hσ, z18 0 (by decide), z18 1 (by decide), z18 2 (by decide), z18 3 (by decide), z18 4 (by decide), z18 5 (by decide), f1 14 (by decide) (by decide), f1 15 (by decide) (by decide), f1 17 (by decide) (by decide), p1 σ hσ, q1 σ hσ, f2 14 (by decide) (by decide), f2 15 (by decide) (by decide), f2 17 (by decide) (by decide), p2 σ hσ, q2 σ hσ, f3 14 (by decide) (by decide), f3 15 (by decide) (by decide), f3 17 (by decide) (by decide), p3 σ hσ, q3 σ hσ]
      generalize bt (hl 14 0) σ = a0
      generalize bt (hl 14 1) σ = a1
      generalize bt (hl 14 2) σ = a2
      generalize bt (hl 15 0) σ = b0
      generalize bt (hl 15 1) σ = b1
      generalize bt (hl 15 2) σ = b2
      revert a0 a1 a2 b0 b1 b2
      decide +kernel
    · simp [u2_ap, cpL_ap, va_cpy, bt_0, lvb, e14, e15, hσ, z18 0 (by decide), z18 1 (by decide), z18 2 (by decide), z18 3 (by decide), z18 4 (by decide), z18 5 (by decide), f1 14 (by decide) (by decide), f1 15 (by decide) (by decide), f1 17 (by decide) (by decide), p1 σ hσ, q1 σ hσ, f2 14 (by decide) (by decide), f2 15 (by decide) (by decide), f2 17 (by decide) (by decide), p2 σ hσ, q2 σ hσ, f3 14 (by decide) (by decide), f3 15 (by decide) (by decide), f3 17 (by decide) (by decide), p3 σ hσ, q3 σ hσ]
      generalize bt (hl 14 0) σ = a0
      generalize bt (hl 14 1) σ = a1
      generalize bt (hl 14 2) σ = a2
      generalize bt (hl 15 0) σ = b0
      generalize bt (hl 15 1) σ = b1
      generalize bt (hl 15 2) σ = b2
      revert a0 a1 a2 b0 b1 b2
      decide +kernel
    · simp [u2_ap, cpL_ap, va_cpy, bt_0, lvb, e14, e15, hσ, z18 0 (by decide), z18 1 (by decide), z18 2 (by decide), z18 3 (by decide), z18 4 (by decide), z18 5 (by decide), f1 14 (by decide) (by decide), f1 15 (by decide) (by decide), f1 17 (by decide) (by decide), p1 σ hσ, q1 σ hσ, f2 14 (by decide) (by decide), f2 15 (by decide) (by decide), f2 17 (by decide) (by decide), p2 σ hσ, q2 σ hσ, f3 14 (by decide) (by decide), f3 15 (by decide) (by decide), f3 17 (by decide) (by decide), p3 σ hσ, q3 σ hσ]
      generalize bt (hl 14 0) σ = a0
      generalize bt (hl 14 1) σ = a1
      generalize bt (hl 14 2) σ = a2
      generalize bt (hl 15 0) σ = b0
      generalize bt (hl 15 1) σ = b1
      generalize bt (hl 15 2) σ = b2
      revert a0 a1 a2 b0 b1 b2
      decide +kernel
theorem jn_14_1 (hi : HI) (hl : HL) (Φ : HI → HL → Prop) (ew eW eb el eu ez : Int32) (h3 : hi 10 3 = 14) (h6 : hi 13 6 = 1)
    (h : ∀ hl', (∀ c, (c < 14 ∨ 19 < c) → hl' c = hl c) → (∀ σ, σ < 64 → ∀ j, j < 1 → bt (hl' 17 j) σ = (opM 14 ew eW eb el eu (nI (lvb (fun j => bt (hl 14 j) σ) 1)) (nI (lvb (fun j => bt (hl 15 j) σ) 1)) ez).toNatClampNeg.testBit j) → Φ hi hl') : wpG_join hi hl Φ := by
  have hv : vp_in (14 : Int32) 31 := vp31 14 (by decide)
  have hv14 : vp_in (14 : Int32) 31 := vp31 14 (by decide)
  have e : swC (14 : Int32).toNatClampNeg = 29 := by decide
  unfold wpG_join wbG_join_0
  rw [h3, e]
  simp (decide := true) only [false_implies, true_implies, and_true, true_and, not_true, not_false_eq_true, hv]
  unfold wpG_reckon wbG_reckon_0
  rw [e]
  simp (decide := true) only [false_implies, true_implies, and_true, true_and, not_true, not_false_eq_true, hv, hv14]
  unfold wbG_reckon_124 wpG_divide wbG_divide_0
  refine pG_clear 4 hi hl _ (fun hl0 g0 z0 => ?_)
  have e14 : hl0 14 = hl 14 := g0 14 (by decide)
  have e15 : hl0 15 = hl 15 := g0 15 (by decide)
  have z18 : ∀ j, j < 6 → hl0 18 j = 0 := z0
  refine ⟨2, ?_⟩
  rw [h6]
  rw [wbG_divide_14]
  refine br_f (by decide) ⟨2, ?_⟩
  simp [wbG_divide_25, h6, u2_ap, vp_in]
  refine ta_1 hi _ _ h6 (fun r1 hl1 f1 p1 q1 => ?_)
  rw [wbG_divide_14]
  refine br_t (by decide) ?_
  refine br_f (by decide) ⟨by rw [h6]; unfold cpIn; decide, ?_⟩
  rw [h6]
  refine h _ (fun c hc => ?_) (fun σ hσ j hj => ?_)
  · funext b
    simp only [u2_ap, cpL_ap]
    repeat rw [if_neg (by omega)]
    rw [f1 c (by omega) (by omega)]
    simp only [u2_ap]
    repeat rw [if_neg (by omega)]
    rw [g0 c (by omega)]
  · simp (decide := true) only [opM, ↓reduceIte]
    have hc : j = 0 := by omega
    subst hc
    · simp [u2_ap, cpL_ap, va_cpy, bt_0, lvb, e14, e15, hσ, z18 0 (by decide), z18 1 (by decide), z18 2 (by decide), z18 3 (by decide), z18 4 (by decide), z18 5 (by decide), f1 14 (by decide) (by decide), f1 15 (by decide) (by decide), f1 17 (by decide) (by decide), p1 σ hσ, q1 σ hσ]
      generalize bt (hl 14 0) σ = a0
      generalize bt (hl 15 0) σ = b0
      revert a0 b0
      decide +kernel
theorem jn_14_2 (hi : HI) (hl : HL) (Φ : HI → HL → Prop) (ew eW eb el eu ez : Int32) (h3 : hi 10 3 = 14) (h6 : hi 13 6 = 2)
    (h : ∀ hl', (∀ c, (c < 14 ∨ 19 < c) → hl' c = hl c) → (∀ σ, σ < 64 → ∀ j, j < 2 → bt (hl' 17 j) σ = (opM 14 ew eW eb el eu (nI (lvb (fun j => bt (hl 14 j) σ) 2)) (nI (lvb (fun j => bt (hl 15 j) σ) 2)) ez).toNatClampNeg.testBit j) → Φ hi hl') : wpG_join hi hl Φ := by
  have hv : vp_in (14 : Int32) 31 := vp31 14 (by decide)
  have hv14 : vp_in (14 : Int32) 31 := vp31 14 (by decide)
  have e : swC (14 : Int32).toNatClampNeg = 29 := by decide
  unfold wpG_join wbG_join_0
  rw [h3, e]
  simp (decide := true) only [false_implies, true_implies, and_true, true_and, not_true, not_false_eq_true, hv]
  unfold wpG_reckon wbG_reckon_0
  rw [e]
  simp (decide := true) only [false_implies, true_implies, and_true, true_and, not_true, not_false_eq_true, hv, hv14]
  unfold wbG_reckon_124 wpG_divide wbG_divide_0
  refine pG_clear 4 hi hl _ (fun hl0 g0 z0 => ?_)
  have e14 : hl0 14 = hl 14 := g0 14 (by decide)
  have e15 : hl0 15 = hl 15 := g0 15 (by decide)
  have z18 : ∀ j, j < 6 → hl0 18 j = 0 := z0
  refine ⟨3, ?_⟩
  rw [h6]
  rw [wbG_divide_14]
  refine br_f (by decide) ⟨3, ?_⟩
  simp [wbG_divide_25, h6, u2_ap, vp_in]
  refine ta_2 hi _ _ h6 (fun r1 hl1 f1 p1 q1 => ?_)
  rw [wbG_divide_14]
  refine br_f (by decide) ⟨3, ?_⟩
  simp [wbG_divide_25, h6, u2_ap, vp_in]
  refine ta_2 hi _ _ h6 (fun r2 hl2 f2 p2 q2 => ?_)
  rw [wbG_divide_14]
  refine br_t (by decide) ?_
  refine br_f (by decide) ⟨by rw [h6]; unfold cpIn; decide, ?_⟩
  rw [h6]
  refine h _ (fun c hc => ?_) (fun σ hσ j hj => ?_)
  · funext b
    simp only [u2_ap, cpL_ap]
    repeat rw [if_neg (by omega)]
    rw [f2 c (by omega) (by omega)]
    simp only [u2_ap]
    repeat rw [if_neg (by omega)]
    rw [f1 c (by omega) (by omega)]
    simp only [u2_ap]
    repeat rw [if_neg (by omega)]
    rw [g0 c (by omega)]
  · simp (decide := true) only [opM, ↓reduceIte]
    have hc : j = 0 ∨ j = 1 := by omega
    rcases hc with rfl | rfl
    · simp [u2_ap, cpL_ap, va_cpy, bt_0, lvb, e14, e15, hσ, z18 0 (by decide), z18 1 (by decide), z18 2 (by decide), z18 3 (by decide), z18 4 (by decide), z18 5 (by decide), f1 14 (by decide) (by decide), f1 15 (by decide) (by decide), f1 17 (by decide) (by decide), p1 σ hσ, q1 σ hσ, f2 14 (by decide) (by decide), f2 15 (by decide) (by decide), f2 17 (by decide) (by decide), p2 σ hσ, q2 σ hσ]
      generalize bt (hl 14 0) σ = a0
      generalize bt (hl 14 1) σ = a1
      generalize bt (hl 15 0) σ = b0
      generalize bt (hl 15 1) σ = b1
      revert a0 a1 b0 b1
      decide +kernel
    · simp [u2_ap, cpL_ap, va_cpy, bt_0, lvb, e14, e15, hσ, z18 0 (by decide), z18 1 (by decide), z18 2 (by decide), z18 3 (by decide), z18 4 (by decide), z18 5 (by decide), f1 14 (by decide) (by decide), f1 15 (by decide) (by decide), f1 17 (by decide) (by decide), p1 σ hσ, q1 σ hσ, f2 14 (by decide) (by decide), f2 15 (by decide) (by decide), f2 17 (by decide) (by decide), p2 σ hσ, q2 σ hσ]
      generalize bt (hl 14 0) σ = a0
      generalize bt (hl 14 1) σ = a1
      generalize bt (hl 15 0) σ = b0
      generalize bt (hl 15 1) σ = b1
      revert a0 a1 b0 b1
      decide +kernel
theorem jn_14_3 (hi : HI) (hl : HL) (Φ : HI → HL → Prop) (ew eW eb el eu ez : Int32) (h3 : hi 10 3 = 14) (h6 : hi 13 6 = 3)
    (h : ∀ hl', (∀ c, (c < 14 ∨ 19 < c) → hl' c = hl c) → (∀ σ, σ < 64 → ∀ j, j < 3 → bt (hl' 17 j) σ = (opM 14 ew eW eb el eu (nI (lvb (fun j => bt (hl 14 j) σ) 3)) (nI (lvb (fun j => bt (hl 15 j) σ) 3)) ez).toNatClampNeg.testBit j) → Φ hi hl') : wpG_join hi hl Φ := by
  have hv : vp_in (14 : Int32) 31 := vp31 14 (by decide)
  have hv14 : vp_in (14 : Int32) 31 := vp31 14 (by decide)
  have e : swC (14 : Int32).toNatClampNeg = 29 := by decide
  unfold wpG_join wbG_join_0
  rw [h3, e]
  simp (decide := true) only [false_implies, true_implies, and_true, true_and, not_true, not_false_eq_true, hv]
  unfold wpG_reckon wbG_reckon_0
  rw [e]
  simp (decide := true) only [false_implies, true_implies, and_true, true_and, not_true, not_false_eq_true, hv, hv14]
  unfold wbG_reckon_124 wpG_divide wbG_divide_0
  refine pG_clear 4 hi hl _ (fun hl0 g0 z0 => ?_)
  have e14 : hl0 14 = hl 14 := g0 14 (by decide)
  have e15 : hl0 15 = hl 15 := g0 15 (by decide)
  have z18 : ∀ j, j < 6 → hl0 18 j = 0 := z0
  refine ⟨4, ?_⟩
  rw [h6]
  rw [wbG_divide_14]
  refine br_f (by decide) ⟨4, ?_⟩
  simp [wbG_divide_25, h6, u2_ap, vp_in]
  refine ta_3 hi _ _ h6 (fun r1 hl1 f1 p1 q1 => ?_)
  rw [wbG_divide_14]
  refine br_f (by decide) ⟨4, ?_⟩
  simp [wbG_divide_25, h6, u2_ap, vp_in]
  refine ta_3 hi _ _ h6 (fun r2 hl2 f2 p2 q2 => ?_)
  rw [wbG_divide_14]
  refine br_f (by decide) ⟨4, ?_⟩
  simp [wbG_divide_25, h6, u2_ap, vp_in]
  refine ta_3 hi _ _ h6 (fun r3 hl3 f3 p3 q3 => ?_)
  rw [wbG_divide_14]
  refine br_t (by decide) ?_
  refine br_f (by decide) ⟨by rw [h6]; unfold cpIn; decide, ?_⟩
  rw [h6]
  refine h _ (fun c hc => ?_) (fun σ hσ j hj => ?_)
  · funext b
    simp only [u2_ap, cpL_ap]
    repeat rw [if_neg (by omega)]
    rw [f3 c (by omega) (by omega)]
    simp only [u2_ap]
    repeat rw [if_neg (by omega)]
    rw [f2 c (by omega) (by omega)]
    simp only [u2_ap]
    repeat rw [if_neg (by omega)]
    rw [f1 c (by omega) (by omega)]
    simp only [u2_ap]
    repeat rw [if_neg (by omega)]
    rw [g0 c (by omega)]
  · simp (decide := true) only [opM, ↓reduceIte]
    have hc : j = 0 ∨ j = 1 ∨ j = 2 := by omega
    rcases hc with rfl | rfl | rfl
    · simp [u2_ap, cpL_ap, va_cpy, bt_0, lvb, e14, e15, hσ, z18 0 (by decide), z18 1 (by decide), z18 2 (by decide), z18 3 (by decide), z18 4 (by decide), z18 5 (by decide), f1 14 (by decide) (by decide), f1 15 (by decide) (by decide), f1 17 (by decide) (by decide), p1 σ hσ, q1 σ hσ, f2 14 (by decide) (by decide), f2 15 (by decide) (by decide), f2 17 (by decide) (by decide), p2 σ hσ, q2 σ hσ, f3 14 (by decide) (by decide), f3 15 (by decide) (by decide), f3 17 (by decide) (by decide), p3 σ hσ, q3 σ hσ]
      generalize bt (hl 14 0) σ = a0
      generalize bt (hl 14 1) σ = a1
      generalize bt (hl 14 2) σ = a2
      generalize bt (hl 15 0) σ = b0
      generalize bt (hl 15 1) σ = b1
      generalize bt (hl 15 2) σ = b2
      revert a0 a1 a2 b0 b1 b2
      decide +kernel
    · simp [u2_ap, cpL_ap, va_cpy, bt_0, lvb, e14, e15, hσ, z18 0 (by decide), z18 1 (by decide), z18 2 (by decide), z18 3 (by decide), z18 4 (by decide), z18 5 (by decide), f1 14 (by decide) (by decide), f1 15 (by decide) (by decide), f1 17 (by decide) (by decide), p1 σ hσ, q1 σ hσ, f2 14 (by decide) (by decide), f2 15 (by decide) (by decide), f2 17 (by decide) (by decide), p2 σ hσ, q2 σ hσ, f3 14 (by decide) (by decide), f3 15 (by decide) (by decide), f3 17 (by decide) (by decide), p3 σ hσ, q3 σ hσ]
      generalize bt (hl 14 0) σ = a0
      generalize bt (hl 14 1) σ = a1
      generalize bt (hl 14 2) σ = a2
      generalize bt (hl 15 0) σ = b0
      generalize bt (hl 15 1) σ = b1
      generalize bt (hl 15 2) σ = b2
      revert a0 a1 a2 b0 b1 b2
      decide +kernel
    · simp [u2_ap, cpL_ap, va_cpy, bt_0, lvb, e14, e15, hσ, z18 0 (by decide), z18 1 (by decide), z18 2 (by decide), z18 3 (by decide), z18 4 (by decide), z18 5 (by decide), f1 14 (by decide) (by decide), f1 15 (by decide) (by decide), f1 17 (by decide) (by decide), p1 σ hσ, q1 σ hσ, f2 14 (by decide) (by decide), f2 15 (by decide) (by decide), f2 17 (by decide) (by decide), p2 σ hσ, q2 σ hσ, f3 14 (by decide) (by decide), f3 15 (by decide) (by decide), f3 17 (by decide) (by decide), p3 σ hσ, q3 σ hσ]
      generalize bt (hl 14 0) σ = a0
      generalize bt (hl 14 1) σ = a1
      generalize bt (hl 14 2) σ = a2
      generalize bt (hl 15 0) σ = b0
      generalize bt (hl 15 1) σ = b1
      generalize bt (hl 15 2) σ = b2
      revert a0 a1 a2 b0 b1 b2
      decide +kernel
