/-! gates: what they give, kind by kind and width by width (printed by wip/whole/pure/gates.py) -/
theorem jn_25_1_2_1 (hi : HI) (hl : HL) (Φ : HI → HL → Prop) (eW eb el eu ez : Int32) (h3 : hi 10 3 = 25) (h6 : hi 13 6 = 1) (h7 : hi 13 7 = 2) (h8 : hi 13 8 = 1) (z14 : ∀ j, 2 ≤ j → j < 6 → hl 14 j = 0) (z15 : ∀ j, 1 ≤ j → j < 6 → hl 15 j = 0) (z17 : ∀ j, j < 6 → hl 17 j = 0)
    (h : ∀ hl', (∀ c, (c < 14 ∨ 19 < c) → hl' c = hl c) → (∀ σ, σ < 64 → ∀ j, j < 1 → bt (hl' 17 j) σ = (opM 25 (nI 1) eW eb el eu (nI (lvb (fun j => bt (hl 14 j) σ) 2)) (nI (lvb (fun j => bt (hl 15 j) σ) 1)) ez).toNatClampNeg.testBit j) → Φ hi hl') : wpG_join hi hl Φ := by
  have hv : vp_in (25 : Int32) 31 := vp31 25 (by decide)
  have e : swC (25 : Int32).toNatClampNeg = 22 := by decide
  have e2 : swC 25 = 22 := by decide
  unfold wpG_join wbG_join_0
  rw [h3, e]
  simp (decide := true) only [false_implies, true_implies, and_true, true_and, not_true, not_false_eq_true, hv]
  unfold wpG_arrange wbG_arrange_0
  refine ⟨by decide, ⟨2, ?_⟩⟩
  simp [wbG_arrange_9, wbG_arrange_93, wbG_arrange_138, wbG_arrange_118, wbG_arrange_234, wbG_arrange_250, wpG_choose, wbG_choose_0, hv, e2, h6, h7, h8, u2_ap, vp_in]
  refine h _ (fun c hc => ?_) (fun σ hσ j hj => ?_)
  · funext b
    simp only [u2_ap, cpL_ap]
    repeat rw [if_neg (by omega)]
  · have hc : j = 0 := by omega
    subst hc
    · simp (decide := true) only [opM, ↓reduceIte]
      simp [u2_ap, cpL_ap, va_cpy, bt_xor, bt_and, bt_or, bt_0, bt_m1 hσ, bt_cm hσ, lvb, z14 2 (by decide) (by decide), z14 3 (by decide) (by decide), z14 4 (by decide) (by decide), z14 5 (by decide) (by decide), z15 1 (by decide) (by decide), z15 2 (by decide) (by decide), z15 3 (by decide) (by decide), z15 4 (by decide) (by decide), z15 5 (by decide) (by decide), z17 0 (by decide), z17 1 (by decide), z17 2 (by decide), z17 3 (by decide), z17 4 (by decide), z17 5 (by decide)]
      generalize bt (hl 14 0) σ = a0
      generalize bt (hl 14 1) σ = a1
      generalize bt (hl 15 0) σ = b0
      revert a0 a1 b0
      decide +kernel
theorem jn_25_2_4_1 (hi : HI) (hl : HL) (Φ : HI → HL → Prop) (eW eb el eu ez : Int32) (h3 : hi 10 3 = 25) (h6 : hi 13 6 = 2) (h7 : hi 13 7 = 4) (h8 : hi 13 8 = 1) (z14 : ∀ j, 4 ≤ j → j < 6 → hl 14 j = 0) (z15 : ∀ j, 1 ≤ j → j < 6 → hl 15 j = 0) (z17 : ∀ j, j < 6 → hl 17 j = 0)
    (h : ∀ hl', (∀ c, (c < 14 ∨ 19 < c) → hl' c = hl c) → (∀ σ, σ < 64 → ∀ j, j < 2 → bt (hl' 17 j) σ = (opM 25 (nI 2) eW eb el eu (nI (lvb (fun j => bt (hl 14 j) σ) 4)) (nI (lvb (fun j => bt (hl 15 j) σ) 1)) ez).toNatClampNeg.testBit j) → Φ hi hl') : wpG_join hi hl Φ := by
  have hv : vp_in (25 : Int32) 31 := vp31 25 (by decide)
  have e : swC (25 : Int32).toNatClampNeg = 22 := by decide
  have e2 : swC 25 = 22 := by decide
  unfold wpG_join wbG_join_0
  rw [h3, e]
  simp (decide := true) only [false_implies, true_implies, and_true, true_and, not_true, not_false_eq_true, hv]
  unfold wpG_arrange wbG_arrange_0
  refine ⟨by decide, ⟨3, ?_⟩⟩
  simp [wbG_arrange_9, wbG_arrange_93, wbG_arrange_138, wbG_arrange_118, wbG_arrange_234, wbG_arrange_250, wpG_choose, wbG_choose_0, hv, e2, h6, h7, h8, u2_ap, vp_in]
  refine h _ (fun c hc => ?_) (fun σ hσ j hj => ?_)
  · funext b
    simp only [u2_ap, cpL_ap]
    repeat rw [if_neg (by omega)]
  · have hc : j = 0 ∨ j = 1 := by omega
    rcases hc with rfl | rfl
    · simp (decide := true) only [opM, ↓reduceIte]
      simp [u2_ap, cpL_ap, va_cpy, bt_xor, bt_and, bt_or, bt_0, bt_m1 hσ, bt_cm hσ, lvb, z14 4 (by decide) (by decide), z14 5 (by decide) (by decide), z15 1 (by decide) (by decide), z15 2 (by decide) (by decide), z15 3 (by decide) (by decide), z15 4 (by decide) (by decide), z15 5 (by decide) (by decide), z17 0 (by decide), z17 1 (by decide), z17 2 (by decide), z17 3 (by decide), z17 4 (by decide), z17 5 (by decide)]
      generalize bt (hl 14 0) σ = a0
      generalize bt (hl 14 1) σ = a1
      generalize bt (hl 14 2) σ = a2
      generalize bt (hl 14 3) σ = a3
      generalize bt (hl 15 0) σ = b0
      revert a0 a1 a2 a3 b0
      decide +kernel
    · simp (decide := true) only [opM, ↓reduceIte]
      simp [u2_ap, cpL_ap, va_cpy, bt_xor, bt_and, bt_or, bt_0, bt_m1 hσ, bt_cm hσ, lvb, z14 4 (by decide) (by decide), z14 5 (by decide) (by decide), z15 1 (by decide) (by decide), z15 2 (by decide) (by decide), z15 3 (by decide) (by decide), z15 4 (by decide) (by decide), z15 5 (by decide) (by decide), z17 0 (by decide), z17 1 (by decide), z17 2 (by decide), z17 3 (by decide), z17 4 (by decide), z17 5 (by decide)]
      generalize bt (hl 14 0) σ = a0
      generalize bt (hl 14 1) σ = a1
      generalize bt (hl 14 2) σ = a2
      generalize bt (hl 14 3) σ = a3
      generalize bt (hl 15 0) σ = b0
      revert a0 a1 a2 a3 b0
      decide +kernel
theorem jn_25_3_6_1 (hi : HI) (hl : HL) (Φ : HI → HL → Prop) (eW eb el eu ez : Int32) (h3 : hi 10 3 = 25) (h6 : hi 13 6 = 3) (h7 : hi 13 7 = 6) (h8 : hi 13 8 = 1) (z14 : ∀ j, 6 ≤ j → j < 6 → hl 14 j = 0) (z15 : ∀ j, 1 ≤ j → j < 6 → hl 15 j = 0) (z17 : ∀ j, j < 6 → hl 17 j = 0)
    (h : ∀ hl', (∀ c, (c < 14 ∨ 19 < c) → hl' c = hl c) → (∀ σ, σ < 64 → ∀ j, j < 3 → bt (hl' 17 j) σ = (opM 25 (nI 3) eW eb el eu (nI (lvb (fun j => bt (hl 14 j) σ) 6)) (nI (lvb (fun j => bt (hl 15 j) σ) 1)) ez).toNatClampNeg.testBit j) → Φ hi hl') : wpG_join hi hl Φ := by
  have hv : vp_in (25 : Int32) 31 := vp31 25 (by decide)
  have e : swC (25 : Int32).toNatClampNeg = 22 := by decide
  have e2 : swC 25 = 22 := by decide
  unfold wpG_join wbG_join_0
  rw [h3, e]
  simp (decide := true) only [false_implies, true_implies, and_true, true_and, not_true, not_false_eq_true, hv]
  unfold wpG_arrange wbG_arrange_0
  refine ⟨by decide, ⟨4, ?_⟩⟩
  simp [wbG_arrange_9, wbG_arrange_93, wbG_arrange_138, wbG_arrange_118, wbG_arrange_234, wbG_arrange_250, wpG_choose, wbG_choose_0, hv, e2, h6, h7, h8, u2_ap, vp_in]
  refine h _ (fun c hc => ?_) (fun σ hσ j hj => ?_)
  · funext b
    simp only [u2_ap, cpL_ap]
    repeat rw [if_neg (by omega)]
  · have hc : j = 0 ∨ j = 1 ∨ j = 2 := by omega
    rcases hc with rfl | rfl | rfl
    · simp (decide := true) only [opM, ↓reduceIte]
      simp [u2_ap, cpL_ap, va_cpy, bt_xor, bt_and, bt_or, bt_0, bt_m1 hσ, bt_cm hσ, lvb, z15 1 (by decide) (by decide), z15 2 (by decide) (by decide), z15 3 (by decide) (by decide), z15 4 (by decide) (by decide), z15 5 (by decide) (by decide), z17 0 (by decide), z17 1 (by decide), z17 2 (by decide), z17 3 (by decide), z17 4 (by decide), z17 5 (by decide)]
      generalize bt (hl 14 0) σ = a0
      generalize bt (hl 14 1) σ = a1
      generalize bt (hl 14 2) σ = a2
      generalize bt (hl 14 3) σ = a3
      generalize bt (hl 14 4) σ = a4
      generalize bt (hl 14 5) σ = a5
      generalize bt (hl 15 0) σ = b0
      revert a0 a1 a2 a3 a4 a5 b0
      decide +kernel
    · simp (decide := true) only [opM, ↓reduceIte]
      simp [u2_ap, cpL_ap, va_cpy, bt_xor, bt_and, bt_or, bt_0, bt_m1 hσ, bt_cm hσ, lvb, z15 1 (by decide) (by decide), z15 2 (by decide) (by decide), z15 3 (by decide) (by decide), z15 4 (by decide) (by decide), z15 5 (by decide) (by decide), z17 0 (by decide), z17 1 (by decide), z17 2 (by decide), z17 3 (by decide), z17 4 (by decide), z17 5 (by decide)]
      generalize bt (hl 14 0) σ = a0
      generalize bt (hl 14 1) σ = a1
      generalize bt (hl 14 2) σ = a2
      generalize bt (hl 14 3) σ = a3
      generalize bt (hl 14 4) σ = a4
      generalize bt (hl 14 5) σ = a5
      generalize bt (hl 15 0) σ = b0
      revert a0 a1 a2 a3 a4 a5 b0
      decide +kernel
    · simp (decide := true) only [opM, ↓reduceIte]
      simp [u2_ap, cpL_ap, va_cpy, bt_xor, bt_and, bt_or, bt_0, bt_m1 hσ, bt_cm hσ, lvb, z15 1 (by decide) (by decide), z15 2 (by decide) (by decide), z15 3 (by decide) (by decide), z15 4 (by decide) (by decide), z15 5 (by decide) (by decide), z17 0 (by decide), z17 1 (by decide), z17 2 (by decide), z17 3 (by decide), z17 4 (by decide), z17 5 (by decide)]
      generalize bt (hl 14 0) σ = a0
      generalize bt (hl 14 1) σ = a1
      generalize bt (hl 14 2) σ = a2
      generalize bt (hl 14 3) σ = a3
      generalize bt (hl 14 4) σ = a4
      generalize bt (hl 14 5) σ = a5
      generalize bt (hl 15 0) σ = b0
      revert a0 a1 a2 a3 a4 a5 b0
      decide +kernel
theorem lvb_lt (b : Nat → Bool) : ∀ w, lvb b w < 2 ^ w
  | 0 => by simp [lvb]
  | w + 1 => by
    have := lvb_lt b w
    simp only [lvb, Nat.pow_succ]
    split <;> omega
theorem lvb_tb (b : Nat → Bool) : ∀ w j, j < w → (lvb b w).testBit j = b j
  | 0, j, h => absurd h (by omega)
  | w + 1, j, h => by
    have hlt := lvb_lt b w
    simp only [lvb]
    by_cases e : j = w
    · subst e
      cases q : b j
      · rw [if_neg (by decide), Nat.add_zero]
        exact Nat.testBit_lt_two_pow hlt
      · rw [if_pos rfl, Nat.add_comm, Nat.testBit_two_pow_add_eq, Nat.testBit_lt_two_pow hlt]; rfl
    · have ih := lvb_tb b w j (by omega)
      cases q : b w
      · rw [if_neg (by decide), Nat.add_zero]; exact ih
      · rw [if_pos rfl, Nat.add_comm, Nat.testBit_two_pow_add_gt (by omega)]; exact ih
theorem lvb_of {b : Nat → Bool} {w x : Nat} (hx : x < 2 ^ w) (h : ∀ j, j < w → b j = x.testBit j) : lvb b w = x := by
  refine Nat.eq_of_testBit_eq (fun j => ?_)
  by_cases c : j < w
  · rw [lvb_tb b w j c, h j c]
  · rw [Nat.testBit_lt_two_pow (Nat.lt_of_lt_of_le (lvb_lt b w) (Nat.pow_le_pow_right (by omega) (by omega))), Nat.testBit_lt_two_pow (Nat.lt_of_lt_of_le hx (Nat.pow_le_pow_right (by omega) (by omega)))]
theorem jn_24 (hi : HI) (hl : HL) (Φ : HI → HL → Prop) (W : Nat) (hW : W ≤ 6) (ew eW eb el eu : Int32) (h3 : hi 10 3 = 24) (h6 : hi 13 6 = nI W)
    (h : ∀ hl', (∀ c, (c < 14 ∨ 19 < c) → hl' c = hl c) → (∀ σ, σ < 64 → ∀ j, j < W → bt (hl' 17 j) σ = (opM 24 ew eW eb el eu (nI (lvb (fun j => bt (hl 15 j) σ) W)) (nI (lvb (fun j => bt (hl 16 j) σ) W)) (nI (lvb (fun j => bt (hl 14 j) σ) 1))).toNatClampNeg.testBit j) → Φ hi hl') : wpG_join hi hl Φ := by
  have hv : vp_in (24 : Int32) 31 := vp31 24 (by decide)
  have e : swC (24 : Int32).toNatClampNeg = 14 := by decide
  unfold wpG_join wbG_join_0
  rw [h3, e]
  simp (decide := true) only [false_implies, true_implies, and_true, true_and, not_true, not_false_eq_true, hv]
  unfold wpG_joinByBits wbG_joinByBits_0
  refine loop_0 (fun fu i (s : HL) => wbG_joinByBits_2 fu 24 (nI i) hi s (fun hi27 hl28 => Φ hi27 hl28)) (fun i s => (∀ c, c ≠ 17 → s c = hl c) ∧ ∀ j, j < i → s 17 j = (hl 14 0 &&& hl 15 j) ||| ((hl 14 0 ^^^ (-1 : Int64)) &&& hl 16 j)) W hl ⟨fun _ _ => rfl, fun j hj => absurd hj (by omega)⟩ (fun m s hs => ?_) (fun m i s hi2 hs ih => ?_)
  · unfold wbG_joinByBits_2
    refine br_t (by rw [h6]; exact nI_le (Nat.le_refl _) (by omega)) (h s (fun c hc => hs.1 c (by omega)) (fun σ hσ j hj => ?_))
    rw [hs.2 j hj, bt_or, bt_and, bt_and, bt_not hσ]
    simp (decide := true) only [opM, ↓reduceIte]
    have p64 : ∀ b : Nat → Bool, lvb b W < 64 := fun b => Nat.lt_of_lt_of_le (lvb_lt b W) (p2_64 hW)
    cases q : bt (hl 14 0) σ
    · have : ¬ nI (lvb (fun j => bt (hl 14 j) σ) 1) = 1 := by simp [lvb, q]; decide
      rw [if_neg this, nI_clamp (by have := p64 (fun j => bt (hl 16 j) σ); omega), lvb_tb _ W j hj]; simp
    · have : nI (lvb (fun j => bt (hl 14 j) σ) 1) = 1 := by simp [lvb, q]; decide
      rw [if_pos this, nI_clamp (by have := p64 (fun j => bt (hl 15 j) σ); omega), lvb_tb _ W j hj]; simp
  · unfold wbG_joinByBits_2 wpG_joinBit wbG_joinBit_0 wpG_choose wbG_choose_0
    rw [e]
    have hvi : vp_in (nI i) 6 := vp_in_nI (by omega) (by omega)
    simp (decide := true) only [false_implies, true_implies, and_true, true_and, not_true, not_false_eq_true, hv]
    refine br_f (by rw [h6]; exact nI_ge hi2 (by omega)) ⟨vp_in_nI (n := 0) (by omega) (by omega), hvi, hvi, hvi, ?_⟩
    rw [nI_clamp (by omega), nI_n1, nI_1, hs.1 14 (by decide), hs.1 15 (by decide), hs.1 16 (by decide)]
    refine ih _ ⟨fun c hc => ?_, fun j hj => ?_⟩
    · rw [u2_cf _ _ _ hc]; exact hs.1 c hc
    · by_cases z : j = i
      · subst z; rw [u2_s]; rfl
      · rw [u2_j _ _ _ _ z]; exact hs.2 j (by omega)
theorem pG_write (hi : HI) (hl : HL) (Φ : HI → HL → Prop) (w : Nat) (hw : w ≤ 3) (h6 : hi 13 6 = nI (2 * w))
    (h : ∀ hl', (∀ c, c ≠ 17 → hl' c = hl c) → (∀ j, j < 2 * w → hl' 17 j = if j < w then (hl 15 0 &&& hl 14 j) ||| ((hl 15 0 ^^^ (-1 : Int64)) &&& hl 16 j) else (hl 15 0 &&& hl 16 (j - w)) ||| ((hl 15 0 ^^^ (-1 : Int64)) &&& hl 14 j)) → Φ hi hl') : wpG_arrange 26 hi hl Φ := by
  have hv : vp_in (26 : Int32) 31 := vp31 26 (by decide)
  have e : swC (26 : Int32).toNatClampNeg = 23 := by decide
  unfold wpG_arrange wbG_arrange_0
  refine ⟨by decide, ?_⟩
  have e2 : hi 13 6 / 2 = nI w := by
    rw [h6, show (2 : Int32) = nI 2 from rfl, pk_div (by omega) (by omega) (by omega)]; congr 1; omega
  rw [e2]
  refine loop_0 (fun fu i (s : HL) => wbG_arrange_9 fu 26 (nI w) (nI i) hi s Φ) (fun i s => (∀ c, c ≠ 17 → s c = hl c) ∧ ∀ j, j < i → s 17 j = if j < w then (hl 15 0 &&& hl 14 j) ||| ((hl 15 0 ^^^ (-1 : Int64)) &&& hl 16 j) else (hl 15 0 &&& hl 16 (j - w)) ||| ((hl 15 0 ^^^ (-1 : Int64)) &&& hl 14 j)) (2 * w) hl ⟨fun _ _ => rfl, fun j hj => absurd hj (by omega)⟩ (fun m s hs => ?_) (fun m i s hi2 hs ih => ?_)
  · unfold wbG_arrange_9
    exact br_t (by rw [h6]; exact nI_le (Nat.le_refl _) (by omega)) (h s hs.1 hs.2)
  · unfold wbG_arrange_9
    rw [e]
    have hvi : vp_in (nI i) 6 := vp_in_nI (by omega) (by omega)
    have hv0 : vp_in (0 : Int32) 6 := vp_in_nI (n := 0) (by omega) (by omega)
    simp (decide := true) only [false_implies, true_implies, and_true, true_and, not_true, not_false_eq_true, hv]
    unfold wbG_arrange_234 wbG_arrange_250 wpG_choose wbG_choose_0
    refine br_f (by rw [h6]; exact nI_ge hi2 (by omega)) ?_
    rw [nI_clamp (by omega), nI_n1, nI_1, hs.1 14 (by decide), hs.1 15 (by decide), hs.1 16 (by decide)]
    have fin : ∀ x : Int64, x = (if i < w then (hl 15 0 &&& hl 14 i) ||| ((hl 15 0 ^^^ (-1 : Int64)) &&& hl 16 i) else (hl 15 0 &&& hl 16 (i - w)) ||| ((hl 15 0 ^^^ (-1 : Int64)) &&& hl 14 i)) → wbG_arrange_9 m 26 (nI w) (nI (i + 1)) hi (u2 s (14 + 3) i x) Φ := fun x hx => by
      refine ih _ ⟨fun c hc => ?_, fun j hj => ?_⟩
      · rw [u2_cf _ _ _ (by omega)]; exact hs.1 c hc
      · by_cases z : j = i
        · subst z; rw [u2_s]; exact hx
        · rw [u2_j _ _ _ _ z]; exact hs.2 j (by omega)
    refine pk_le w i (fun q => ⟨hv0, ?_, hvi, hvi, ?_⟩) (fun q => ⟨hv0, hvi, hvi, hvi, ?_⟩)
    · rw [pk_sub q]; exact vp_in_nI (by omega) (by omega)
    · rw [pk_sub q, nI_clamp (by omega)]
      exact fin _ (by rw [if_neg (by omega)]; rfl)
    · exact fin _ (by rw [if_pos q]; rfl)
theorem jn_26_1 (hi : HI) (hl : HL) (Φ : HI → HL → Prop) (eW eb el eu : Int32) (h3 : hi 10 3 = 26) (h6 : hi 13 6 = nI 2)
    (h : ∀ hl', (∀ c, (c < 14 ∨ 19 < c) → hl' c = hl c) → (∀ σ, σ < 64 → ∀ j, j < 2 → bt (hl' 17 j) σ = (opM 26 (nI 1) eW eb el eu (nI (lvb (fun j => bt (hl 14 j) σ) 2)) (nI (lvb (fun j => bt (hl 15 j) σ) 1)) (nI (lvb (fun j => bt (hl 16 j) σ) 1))).toNatClampNeg.testBit j) → Φ hi hl') : wpG_join hi hl Φ := by
  have hv : vp_in (26 : Int32) 31 := vp31 26 (by decide)
  have e : swC (26 : Int32).toNatClampNeg = 23 := by decide
  unfold wpG_join wbG_join_0
  rw [h3, e]
  simp (decide := true) only [false_implies, true_implies, and_true, true_and, not_true, not_false_eq_true, hv]
  refine pG_write hi hl _ 1 (by decide) h6 (fun hl' g1 g2 => h hl' (fun c hc => g1 c (by omega)) (fun σ hσ j hj => ?_))
  rw [g2 j hj]
  simp (decide := true) only [opM, ↓reduceIte, lvb]
  have hc : j = 0 ∨ j = 1 := by omega
  rcases hc with rfl | rfl
  · simp [bt_xor, bt_and, bt_or, bt_0, bt_m1 hσ, bt_cm hσ]
    generalize bt (hl 14 0) σ = a0
    generalize bt (hl 14 1) σ = a1
    generalize bt (hl 15 0) σ = b0
    generalize bt (hl 16 0) σ = c0
    revert a0 a1 b0 c0
    decide +kernel
  · simp [bt_xor, bt_and, bt_or, bt_0, bt_m1 hσ, bt_cm hσ]
    generalize bt (hl 14 0) σ = a0
    generalize bt (hl 14 1) σ = a1
    generalize bt (hl 15 0) σ = b0
    generalize bt (hl 16 0) σ = c0
    revert a0 a1 b0 c0
    decide +kernel
theorem jn_26_2 (hi : HI) (hl : HL) (Φ : HI → HL → Prop) (eW eb el eu : Int32) (h3 : hi 10 3 = 26) (h6 : hi 13 6 = nI 4)
    (h : ∀ hl', (∀ c, (c < 14 ∨ 19 < c) → hl' c = hl c) → (∀ σ, σ < 64 → ∀ j, j < 4 → bt (hl' 17 j) σ = (opM 26 (nI 2) eW eb el eu (nI (lvb (fun j => bt (hl 14 j) σ) 4)) (nI (lvb (fun j => bt (hl 15 j) σ) 1)) (nI (lvb (fun j => bt (hl 16 j) σ) 2))).toNatClampNeg.testBit j) → Φ hi hl') : wpG_join hi hl Φ := by
  have hv : vp_in (26 : Int32) 31 := vp31 26 (by decide)
  have e : swC (26 : Int32).toNatClampNeg = 23 := by decide
  unfold wpG_join wbG_join_0
  rw [h3, e]
  simp (decide := true) only [false_implies, true_implies, and_true, true_and, not_true, not_false_eq_true, hv]
  refine pG_write hi hl _ 2 (by decide) h6 (fun hl' g1 g2 => h hl' (fun c hc => g1 c (by omega)) (fun σ hσ j hj => ?_))
  rw [g2 j hj]
  simp (decide := true) only [opM, ↓reduceIte, lvb]
  have hc : j = 0 ∨ j = 1 ∨ j = 2 ∨ j = 3 := by omega
  rcases hc with rfl | rfl | rfl | rfl
  · simp [bt_xor, bt_and, bt_or, bt_0, bt_m1 hσ, bt_cm hσ]
    generalize bt (hl 14 0) σ = a0
    generalize bt (hl 14 1) σ = a1
    generalize bt (hl 14 2) σ = a2
    generalize bt (hl 14 3) σ = a3
    generalize bt (hl 15 0) σ = b0
    generalize bt (hl 16 0) σ = c0
    generalize bt (hl 16 1) σ = c1
    revert a0 a1 a2 a3 b0 c0 c1
    decide +kernel
  · simp [bt_xor, bt_and, bt_or, bt_0, bt_m1 hσ, bt_cm hσ]
    generalize bt (hl 14 0) σ = a0
    generalize bt (hl 14 1) σ = a1
    generalize bt (hl 14 2) σ = a2
    generalize bt (hl 14 3) σ = a3
    generalize bt (hl 15 0) σ = b0
    generalize bt (hl 16 0) σ = c0
    generalize bt (hl 16 1) σ = c1
    revert a0 a1 a2 a3 b0 c0 c1
    decide +kernel
  · simp [bt_xor, bt_and, bt_or, bt_0, bt_m1 hσ, bt_cm hσ]
    generalize bt (hl 14 0) σ = a0
    generalize bt (hl 14 1) σ = a1
    generalize bt (hl 14 2) σ = a2
    generalize bt (hl 14 3) σ = a3
    generalize bt (hl 15 0) σ = b0
    generalize bt (hl 16 0) σ = c0
    generalize bt (hl 16 1) σ = c1
    revert a0 a1 a2 a3 b0 c0 c1
    decide +kernel
  · simp [bt_xor, bt_and, bt_or, bt_0, bt_m1 hσ, bt_cm hσ]
    generalize bt (hl 14 0) σ = a0
    generalize bt (hl 14 1) σ = a1
    generalize bt (hl 14 2) σ = a2
    generalize bt (hl 14 3) σ = a3
    generalize bt (hl 15 0) σ = b0
    generalize bt (hl 16 0) σ = c0
    generalize bt (hl 16 1) σ = c1
    revert a0 a1 a2 a3 b0 c0 c1
    decide +kernel
theorem jn_26_3 (hi : HI) (hl : HL) (Φ : HI → HL → Prop) (eW eb el eu : Int32) (h3 : hi 10 3 = 26) (h6 : hi 13 6 = nI 6)
    (h : ∀ hl', (∀ c, (c < 14 ∨ 19 < c) → hl' c = hl c) → (∀ σ, σ < 64 → ∀ j, j < 6 → bt (hl' 17 j) σ = (opM 26 (nI 3) eW eb el eu (nI (lvb (fun j => bt (hl 14 j) σ) 6)) (nI (lvb (fun j => bt (hl 15 j) σ) 1)) (nI (lvb (fun j => bt (hl 16 j) σ) 3))).toNatClampNeg.testBit j) → Φ hi hl') : wpG_join hi hl Φ := by
  have hv : vp_in (26 : Int32) 31 := vp31 26 (by decide)
  have e : swC (26 : Int32).toNatClampNeg = 23 := by decide
  unfold wpG_join wbG_join_0
  rw [h3, e]
  simp (decide := true) only [false_implies, true_implies, and_true, true_and, not_true, not_false_eq_true, hv]
  refine pG_write hi hl _ 3 (by decide) h6 (fun hl' g1 g2 => h hl' (fun c hc => g1 c (by omega)) (fun σ hσ j hj => ?_))
  rw [g2 j hj]
  simp (decide := true) only [opM, ↓reduceIte, lvb]
  have hc : j = 0 ∨ j = 1 ∨ j = 2 ∨ j = 3 ∨ j = 4 ∨ j = 5 := by omega
  rcases hc with rfl | rfl | rfl | rfl | rfl | rfl
  · simp [bt_xor, bt_and, bt_or, bt_0, bt_m1 hσ, bt_cm hσ]
    generalize bt (hl 14 0) σ = a0
    generalize bt (hl 14 1) σ = a1
    generalize bt (hl 14 2) σ = a2
    generalize bt (hl 14 3) σ = a3
    generalize bt (hl 14 4) σ = a4
    generalize bt (hl 14 5) σ = a5
    generalize bt (hl 15 0) σ = b0
    generalize bt (hl 16 0) σ = c0
    generalize bt (hl 16 1) σ = c1
    generalize bt (hl 16 2) σ = c2
    revert a0 a1 a2 a3 a4 a5 b0 c0 c1 c2
    decide +kernel
  · simp [bt_xor, bt_and, bt_or, bt_0, bt_m1 hσ, bt_cm hσ]
    generalize bt (hl 14 0) σ = a0
    generalize bt (hl 14 1) σ = a1
    generalize bt (hl 14 2) σ = a2
    generalize bt (hl 14 3) σ = a3
    generalize bt (hl 14 4) σ = a4
    generalize bt (hl 14 5) σ = a5
    generalize bt (hl 15 0) σ = b0
    generalize bt (hl 16 0) σ = c0
    generalize bt (hl 16 1) σ = c1
    generalize bt (hl 16 2) σ = c2
    revert a0 a1 a2 a3 a4 a5 b0 c0 c1 c2
    decide +kernel
  · simp [bt_xor, bt_and, bt_or, bt_0, bt_m1 hσ, bt_cm hσ]
    generalize bt (hl 14 0) σ = a0
    generalize bt (hl 14 1) σ = a1
    generalize bt (hl 14 2) σ = a2
    generalize bt (hl 14 3) σ = a3
    generalize bt (hl 14 4) σ = a4
    generalize bt (hl 14 5) σ = a5
    generalize bt (hl 15 0) σ = b0
    generalize bt (hl 16 0) σ = c0
    generalize bt (hl 16 1) σ = c1
    generalize bt (hl 16 2) σ = c2
    revert a0 a1 a2 a3 a4 a5 b0 c0 c1 c2
    decide +kernel
  · simp [bt_xor, bt_and, bt_or, bt_0, bt_m1 hσ, bt_cm hσ]
    generalize bt (hl 14 0) σ = a0
    generalize bt (hl 14 1) σ = a1
    generalize bt (hl 14 2) σ = a2
    generalize bt (hl 14 3) σ = a3
    generalize bt (hl 14 4) σ = a4
    generalize bt (hl 14 5) σ = a5
    generalize bt (hl 15 0) σ = b0
    generalize bt (hl 16 0) σ = c0
    generalize bt (hl 16 1) σ = c1
    generalize bt (hl 16 2) σ = c2
    revert a0 a1 a2 a3 a4 a5 b0 c0 c1 c2
    decide +kernel
  · simp [bt_xor, bt_and, bt_or, bt_0, bt_m1 hσ, bt_cm hσ]
    generalize bt (hl 14 0) σ = a0
    generalize bt (hl 14 1) σ = a1
    generalize bt (hl 14 2) σ = a2
    generalize bt (hl 14 3) σ = a3
    generalize bt (hl 14 4) σ = a4
    generalize bt (hl 14 5) σ = a5
    generalize bt (hl 15 0) σ = b0
    generalize bt (hl 16 0) σ = c0
    generalize bt (hl 16 1) σ = c1
    generalize bt (hl 16 2) σ = c2
    revert a0 a1 a2 a3 a4 a5 b0 c0 c1 c2
    decide +kernel
  · simp [bt_xor, bt_and, bt_or, bt_0, bt_m1 hσ, bt_cm hσ]
    generalize bt (hl 14 0) σ = a0
    generalize bt (hl 14 1) σ = a1
    generalize bt (hl 14 2) σ = a2
    generalize bt (hl 14 3) σ = a3
    generalize bt (hl 14 4) σ = a4
    generalize bt (hl 14 5) σ = a5
    generalize bt (hl 15 0) σ = b0
    generalize bt (hl 16 0) σ = c0
    generalize bt (hl 16 1) σ = c1
    generalize bt (hl 16 2) σ = c2
    revert a0 a1 a2 a3 a4 a5 b0 c0 c1 c2
    decide +kernel
