/-! gates: all kinds together (printed by wip/whole/pure/joins.py) -/
def lA (hl : HL) (σ κ n0 n1 : Nat) : Nat := if κ = 24 then lvb (fun j => bt (hl 15 j) σ) (bts n1) else lvb (fun j => bt (hl 14 j) σ) (bts n0)
def lBv (hl : HL) (σ κ n1 n2 : Nat) : Nat := if κ = 24 then lvb (fun j => bt (hl 16 j) σ) (bts n2) else lvb (fun j => bt (hl 15 j) σ) (bts n1)
def lCv (hl : HL) (σ κ n0 n2 : Nat) : Nat := if κ = 24 then lvb (fun j => bt (hl 14 j) σ) (bts n0) else lvb (fun j => bt (hl 16 j) σ) (bts n2)
/-- sorts that a line of the kind κ may have: its own, and those of its nodes (0: none) -/
def JC (κ S n0 n1 n2 l u : Nat) : Prop :=
  (κ = 3 ∧ 1 ≤ S ∧ S ≤ 3 ∧ u < 2 ^ S) ∨ ((κ = 4 ∨ κ = 5) ∧ 1 ≤ S ∧ S ≤ 3 ∧ n0 = S ∧ n1 = 0) ∨ (κ = 6 ∧ S = 1 ∧ 1 ≤ n0 ∧ n0 ≤ 3 ∧ n1 = 0) ∨ (7 ≤ κ ∧ κ ≤ 16 ∧ 1 ≤ S ∧ S ≤ 3 ∧ n0 = S ∧ n1 = S) ∨ (κ = 17 ∧ S = 1 ∧ 1 ≤ n0 ∧ n0 ≤ 7 ∧ n0 ≠ 4 ∧ n1 = n0) ∨ ((κ = 18 ∨ κ = 19) ∧ S = 1 ∧ 1 ≤ n0 ∧ n0 ≤ 3 ∧ n1 = n0) ∨ (κ = 20 ∧ S ≤ 3 ∧ 1 ≤ n0 ∧ 1 ≤ n1 ∧ n0 + n1 = S) ∨ (κ = 21 ∧ 1 ≤ S ∧ n0 ≤ 3 ∧ l + S ≤ n0 ∧ n1 = 0) ∨ ((κ = 22 ∨ κ = 23) ∧ S ≤ 3 ∧ 1 ≤ n0 ∧ n0 ≤ S ∧ n1 = 0) ∨ (κ = 24 ∧ 1 ≤ S ∧ S ≤ 7 ∧ S ≠ 4 ∧ n0 = 1 ∧ n1 = S ∧ n2 = S) ∨ (κ = 25 ∧ 1 ≤ S ∧ S ≤ 3 ∧ n0 = 4 + S ∧ n1 = 1) ∨ (κ = 26 ∧ 5 ≤ S ∧ S ≤ 7 ∧ n0 = S ∧ n1 = 1 ∧ n2 = S - 4)
def JB (hi : HI) (hl : HL) (κ S n0 n1 n2 l u : Nat) (Φ : HI → HL → Prop) : Prop :=
  ∀ hl', (∀ c, (c < 14 ∨ 19 < c) → hl' c = hl c) → (∀ σ, σ < 64 → ∀ j, j < bts S → bt (hl' 17 j) σ = (opM κ (nI (wdt S)) (nI (wdt n0)) (nI (wdt n1)) (nI l) (nI u) (nI (lA hl σ κ n0 n1)) (nI (lBv hl σ κ n1 n2)) (nI (lCv hl σ κ n0 n2))).toNatClampNeg.testBit j) → Φ hi hl'
theorem pG_join (hi : HI) (hl : HL) (Φ : HI → HL → Prop) (κ S n0 n1 n2 l u : Nat) (hJ : JC κ S n0 n1 n2 l u) (h3 : hi 10 3 = nI κ) (h6 : hi 13 6 = nI (bts S)) (h7 : hi 13 7 = nI (bts n0)) (h8 : hi 13 8 = nI (bts n1)) (h93 : κ = 3 → hi 10 9 = nI u) (h91 : κ = 21 → hi 10 9 = nI l) (z14 : ∀ j, bts n0 ≤ j → j < 6 → hl 14 j = 0) (z15 : ∀ j, bts n1 ≤ j → j < 6 → hl 15 j = 0) (z17 : ∀ j, j < 6 → hl 17 j = 0) (h : JB hi hl κ S n0 n1 n2 l u Φ) : wpG_join hi hl Φ := by
  rcases hJ with ⟨rfl, a1, a2, a3⟩ | ⟨k, a1, a2, a3, a4⟩ | ⟨rfl, a1, a2, a3, a4⟩ | ⟨k1, k2, a1, a2, a3, a4⟩ | ⟨rfl, a1, a2, a3, a4, a5⟩ | ⟨k, a1, a2, a3, a4⟩ | ⟨rfl, a1, a2, a3, a4⟩ | ⟨rfl, a1, a2, a3, a4⟩ | ⟨k, a1, a2, a3, a4⟩ | ⟨rfl, a1, a2, a3, a4, a5, a6⟩ | ⟨rfl, a1, a2, a3, a4⟩ | ⟨rfl, a1, a2, a3, a4, a5⟩
  · -- constd
    have hb : bts S = S := bts_b (by omega)
    have h8' : (2 : Nat) ^ S ≤ 2 ^ 3 := Nat.pow_le_pow_right (by omega) a2
    rw [hb] at h6
    refine jn_3 hi hl Φ S u a2 (by omega) 0 0 0 0 0 0 0 h3 h6 (h93 rfl) (fun hl' f b => h hl' f (fun σ hσ j hj => ?_))
    rw [hb] at hj
    have := b σ hσ j hj
    simp (decide := true) only [opM, ↓reduceIte] at this ⊢
    exact this
  · rcases k with rfl | rfl
    · subst a3; subst a4
      have hc : n0 = 1 ∨ n0 = 2 ∨ n0 = 3 := by omega
      rcases hc with rfl | rfl | rfl
      · skip
        refine jn_4_1_1_0 hi hl Φ 0 0 0 0 0 0 h3 h6 h7 h8 z14 z15 z17 (fun hl' f b => h hl' f (fun σ hσ j hj => ?_))
        have := b σ hσ j hj
        simp (decide := true) only [opM, ↓reduceIte, lA, lBv, lCv] at this ⊢
        exact this
      · skip
        refine jn_4_2_2_0 hi hl Φ 0 0 0 0 0 0 h3 h6 h7 h8 z14 z15 z17 (fun hl' f b => h hl' f (fun σ hσ j hj => ?_))
        have := b σ hσ j hj
        simp (decide := true) only [opM, ↓reduceIte, lA, lBv, lCv] at this ⊢
        exact this
      · skip
        refine jn_4_3_3_0 hi hl Φ 0 0 0 0 0 0 h3 h6 h7 h8 z14 z15 z17 (fun hl' f b => h hl' f (fun σ hσ j hj => ?_))
        have := b σ hσ j hj
        simp (decide := true) only [opM, ↓reduceIte, lA, lBv, lCv] at this ⊢
        exact this
    · subst a3; subst a4
      have hc : n0 = 1 ∨ n0 = 2 ∨ n0 = 3 := by omega
      rcases hc with rfl | rfl | rfl
      · skip
        refine jn_5_1_1_0 hi hl Φ 0 0 0 0 0 0 h3 h6 h7 h8 z14 z15 z17 (fun hl' f b => h hl' f (fun σ hσ j hj => ?_))
        have := b σ hσ j hj
        simp (decide := true) only [opM, ↓reduceIte, lA, lBv, lCv] at this ⊢
        exact this
      · skip
        refine jn_5_2_2_0 hi hl Φ 0 0 0 0 0 0 h3 h6 h7 h8 z14 z15 z17 (fun hl' f b => h hl' f (fun σ hσ j hj => ?_))
        have := b σ hσ j hj
        simp (decide := true) only [opM, ↓reduceIte, lA, lBv, lCv] at this ⊢
        exact this
      · skip
        refine jn_5_3_3_0 hi hl Φ 0 0 0 0 0 0 h3 h6 h7 h8 z14 z15 z17 (fun hl' f b => h hl' f (fun σ hσ j hj => ?_))
        have := b σ hσ j hj
        simp (decide := true) only [opM, ↓reduceIte, lA, lBv, lCv] at this ⊢
        exact this
  · subst a1; subst a4
    have hc : n0 = 1 ∨ n0 = 2 ∨ n0 = 3 := by omega
    rcases hc with rfl | rfl | rfl
    · skip
      refine jn_6_1_1_0 hi hl Φ 0 0 0 0 0 0 0 h3 h6 h7 h8 z14 z15 z17 (fun hl' f b => h hl' f (fun σ hσ j hj => ?_))
      have := b σ hσ j hj
      simp (decide := true) only [opM, ↓reduceIte, lA, lBv, lCv] at this ⊢
      exact this
    · skip
      refine jn_6_1_2_0 hi hl Φ 0 0 0 0 0 0 0 h3 h6 h7 h8 z14 z15 z17 (fun hl' f b => h hl' f (fun σ hσ j hj => ?_))
      have := b σ hσ j hj
      simp (decide := true) only [opM, ↓reduceIte, lA, lBv, lCv] at this ⊢
      exact this
    · skip
      refine jn_6_1_3_0 hi hl Φ 0 0 0 0 0 0 0 h3 h6 h7 h8 z14 z15 z17 (fun hl' f b => h hl' f (fun σ hσ j hj => ?_))
      have := b σ hσ j hj
      simp (decide := true) only [opM, ↓reduceIte, lA, lBv, lCv] at this ⊢
      exact this
  · subst a3; subst a4
    have hc : κ = 7 ∨ κ = 8 ∨ κ = 9 ∨ κ = 10 ∨ κ = 11 ∨ κ = 12 ∨ κ = 13 ∨ κ = 14 ∨ κ = 15 ∨ κ = 16 := by omega
    rcases hc with rfl | rfl | rfl | rfl | rfl | rfl | rfl | rfl | rfl | rfl
    · have hc : n1 = 1 ∨ n1 = 2 ∨ n1 = 3 := by omega
      rcases hc with rfl | rfl | rfl
      · skip
        refine jn_7_1_1_1 hi hl Φ 0 0 0 0 0 0 h3 h6 h7 h8 z14 z15 z17 (fun hl' f b => h hl' f (fun σ hσ j hj => ?_))
        have := b σ hσ j hj
        simp (decide := true) only [opM, ↓reduceIte, lA, lBv, lCv] at this ⊢
        exact this
      · skip
        refine jn_7_2_2_2 hi hl Φ 0 0 0 0 0 0 h3 h6 h7 h8 z14 z15 z17 (fun hl' f b => h hl' f (fun σ hσ j hj => ?_))
        have := b σ hσ j hj
        simp (decide := true) only [opM, ↓reduceIte, lA, lBv, lCv] at this ⊢
        exact this
      · skip
        refine jn_7_3_3_3 hi hl Φ 0 0 0 0 0 0 h3 h6 h7 h8 z14 z15 z17 (fun hl' f b => h hl' f (fun σ hσ j hj => ?_))
        have := b σ hσ j hj
        simp (decide := true) only [opM, ↓reduceIte, lA, lBv, lCv] at this ⊢
        exact this
    · have hc : n1 = 1 ∨ n1 = 2 ∨ n1 = 3 := by omega
      rcases hc with rfl | rfl | rfl
      · skip
        refine jn_8_1_1_1 hi hl Φ 0 0 0 0 0 0 h3 h6 h7 h8 z14 z15 z17 (fun hl' f b => h hl' f (fun σ hσ j hj => ?_))
        have := b σ hσ j hj
        simp (decide := true) only [opM, ↓reduceIte, lA, lBv, lCv] at this ⊢
        exact this
      · skip
        refine jn_8_2_2_2 hi hl Φ 0 0 0 0 0 0 h3 h6 h7 h8 z14 z15 z17 (fun hl' f b => h hl' f (fun σ hσ j hj => ?_))
        have := b σ hσ j hj
        simp (decide := true) only [opM, ↓reduceIte, lA, lBv, lCv] at this ⊢
        exact this
      · skip
        refine jn_8_3_3_3 hi hl Φ 0 0 0 0 0 0 h3 h6 h7 h8 z14 z15 z17 (fun hl' f b => h hl' f (fun σ hσ j hj => ?_))
        have := b σ hσ j hj
        simp (decide := true) only [opM, ↓reduceIte, lA, lBv, lCv] at this ⊢
        exact this
    · have hc : n1 = 1 ∨ n1 = 2 ∨ n1 = 3 := by omega
      rcases hc with rfl | rfl | rfl
      · skip
        refine jn_9_1_1_1 hi hl Φ 0 0 0 0 0 0 h3 h6 h7 h8 z14 z15 z17 (fun hl' f b => h hl' f (fun σ hσ j hj => ?_))
        have := b σ hσ j hj
        simp (decide := true) only [opM, ↓reduceIte, lA, lBv, lCv] at this ⊢
        exact this
      · skip
        refine jn_9_2_2_2 hi hl Φ 0 0 0 0 0 0 h3 h6 h7 h8 z14 z15 z17 (fun hl' f b => h hl' f (fun σ hσ j hj => ?_))
        have := b σ hσ j hj
        simp (decide := true) only [opM, ↓reduceIte, lA, lBv, lCv] at this ⊢
        exact this
      · skip
        refine jn_9_3_3_3 hi hl Φ 0 0 0 0 0 0 h3 h6 h7 h8 z14 z15 z17 (fun hl' f b => h hl' f (fun σ hσ j hj => ?_))
        have := b σ hσ j hj
        simp (decide := true) only [opM, ↓reduceIte, lA, lBv, lCv] at this ⊢
        exact this
    · have hc : n1 = 1 ∨ n1 = 2 ∨ n1 = 3 := by omega
      rcases hc with rfl | rfl | rfl
      · skip
        refine jn_10_1_1_1 hi hl Φ 0 0 0 0 0 h3 h6 h7 h8 z14 z15 z17 (fun hl' f b => h hl' f (fun σ hσ j hj => ?_))
        have := b σ hσ j hj
        simp (decide := true) only [opM, ↓reduceIte, lA, lBv, lCv] at this ⊢
        exact this
      · skip
        refine jn_10_2_2_2 hi hl Φ 0 0 0 0 0 h3 h6 h7 h8 z14 z15 z17 (fun hl' f b => h hl' f (fun σ hσ j hj => ?_))
        have := b σ hσ j hj
        simp (decide := true) only [opM, ↓reduceIte, lA, lBv, lCv] at this ⊢
        exact this
      · skip
        refine jn_10_3_3_3 hi hl Φ 0 0 0 0 0 h3 h6 h7 h8 z14 z15 z17 (fun hl' f b => h hl' f (fun σ hσ j hj => ?_))
        have := b σ hσ j hj
        simp (decide := true) only [opM, ↓reduceIte, lA, lBv, lCv] at this ⊢
        exact this
    · have hc : n1 = 1 ∨ n1 = 2 ∨ n1 = 3 := by omega
      rcases hc with rfl | rfl | rfl
      · skip
        refine jn_11_1_1_1 hi hl Φ 0 0 0 0 0 h3 h6 h7 h8 z14 z15 z17 (fun hl' f b => h hl' f (fun σ hσ j hj => ?_))
        have := b σ hσ j hj
        simp (decide := true) only [opM, ↓reduceIte, lA, lBv, lCv] at this ⊢
        exact this
      · skip
        refine jn_11_2_2_2 hi hl Φ 0 0 0 0 0 h3 h6 h7 h8 z14 z15 z17 (fun hl' f b => h hl' f (fun σ hσ j hj => ?_))
        have := b σ hσ j hj
        simp (decide := true) only [opM, ↓reduceIte, lA, lBv, lCv] at this ⊢
        exact this
      · skip
        refine jn_11_3_3_3 hi hl Φ 0 0 0 0 0 h3 h6 h7 h8 z14 z15 z17 (fun hl' f b => h hl' f (fun σ hσ j hj => ?_))
        have := b σ hσ j hj
        simp (decide := true) only [opM, ↓reduceIte, lA, lBv, lCv] at this ⊢
        exact this
    · have hc : n1 = 1 ∨ n1 = 2 ∨ n1 = 3 := by omega
      rcases hc with rfl | rfl | rfl
      · skip
        refine jn_12_1_1_1 hi hl Φ 0 0 0 0 0 h3 h6 h7 h8 z14 z15 z17 (fun hl' f b => h hl' f (fun σ hσ j hj => ?_))
        have := b σ hσ j hj
        simp (decide := true) only [opM, ↓reduceIte, lA, lBv, lCv] at this ⊢
        exact this
      · skip
        refine jn_12_2_2_2 hi hl Φ 0 0 0 0 0 h3 h6 h7 h8 z14 z15 z17 (fun hl' f b => h hl' f (fun σ hσ j hj => ?_))
        have := b σ hσ j hj
        simp (decide := true) only [opM, ↓reduceIte, lA, lBv, lCv] at this ⊢
        exact this
      · skip
        refine jn_12_3_3_3 hi hl Φ 0 0 0 0 0 h3 h6 h7 h8 z14 z15 z17 (fun hl' f b => h hl' f (fun σ hσ j hj => ?_))
        have := b σ hσ j hj
        simp (decide := true) only [opM, ↓reduceIte, lA, lBv, lCv] at this ⊢
        exact this
    · have hc : n1 = 1 ∨ n1 = 2 ∨ n1 = 3 := by omega
      rcases hc with rfl | rfl | rfl
      · skip
        refine jn_13_1 hi hl Φ 0 0 0 0 0 h3 h6 (fun hl' f b => h hl' f (fun σ hσ j hj => ?_))
        have := b σ hσ j hj
        simp (decide := true) only [opM, ↓reduceIte, lA, lBv, lCv] at this ⊢
        exact this
      · skip
        refine jn_13_2 hi hl Φ 0 0 0 0 0 h3 h6 (fun hl' f b => h hl' f (fun σ hσ j hj => ?_))
        have := b σ hσ j hj
        simp (decide := true) only [opM, ↓reduceIte, lA, lBv, lCv] at this ⊢
        exact this
      · skip
        refine jn_13_3 hi hl Φ 0 0 0 0 0 h3 h6 (fun hl' f b => h hl' f (fun σ hσ j hj => ?_))
        have := b σ hσ j hj
        simp (decide := true) only [opM, ↓reduceIte, lA, lBv, lCv] at this ⊢
        exact this
    · have hc : n1 = 1 ∨ n1 = 2 ∨ n1 = 3 := by omega
      rcases hc with rfl | rfl | rfl
      · skip
        refine jn_14_1 hi hl Φ 0 0 0 0 0 0 h3 h6 (fun hl' f b => h hl' f (fun σ hσ j hj => ?_))
        have := b σ hσ j hj
        simp (decide := true) only [opM, ↓reduceIte, lA, lBv, lCv] at this ⊢
        exact this
      · skip
        refine jn_14_2 hi hl Φ 0 0 0 0 0 0 h3 h6 (fun hl' f b => h hl' f (fun σ hσ j hj => ?_))
        have := b σ hσ j hj
        simp (decide := true) only [opM, ↓reduceIte, lA, lBv, lCv] at this ⊢
        exact this
      · skip
        refine jn_14_3 hi hl Φ 0 0 0 0 0 0 h3 h6 (fun hl' f b => h hl' f (fun σ hσ j hj => ?_))
        have := b σ hσ j hj
        simp (decide := true) only [opM, ↓reduceIte, lA, lBv, lCv] at this ⊢
        exact this
    · have hc : n1 = 1 ∨ n1 = 2 ∨ n1 = 3 := by omega
      rcases hc with rfl | rfl | rfl
      · skip
        refine jn_15_1_1_1 hi hl Φ 0 0 0 0 0 h3 h6 h7 h8 z14 z15 z17 (fun hl' f b => h hl' f (fun σ hσ j hj => ?_))
        have := b σ hσ j hj
        simp (decide := true) only [opM, ↓reduceIte, lA, lBv, lCv] at this ⊢
        exact this
      · skip
        refine jn_15_2_2_2 hi hl Φ 0 0 0 0 0 h3 h6 h7 h8 z14 z15 z17 (fun hl' f b => h hl' f (fun σ hσ j hj => ?_))
        have := b σ hσ j hj
        simp (decide := true) only [opM, ↓reduceIte, lA, lBv, lCv] at this ⊢
        exact this
      · skip
        refine jn_15_3_3_3 hi hl Φ 0 0 0 0 0 h3 h6 h7 h8 z14 z15 z17 (fun hl' f b => h hl' f (fun σ hσ j hj => ?_))
        have := b σ hσ j hj
        simp (decide := true) only [opM, ↓reduceIte, lA, lBv, lCv] at this ⊢
        exact this
    · have hc : n1 = 1 ∨ n1 = 2 ∨ n1 = 3 := by omega
      rcases hc with rfl | rfl | rfl
      · skip
        refine jn_16_1_1_1 hi hl Φ 0 0 0 0 0 0 h3 h6 h7 h8 z14 z15 z17 (fun hl' f b => h hl' f (fun σ hσ j hj => ?_))
        have := b σ hσ j hj
        simp (decide := true) only [opM, ↓reduceIte, lA, lBv, lCv] at this ⊢
        exact this
      · skip
        refine jn_16_2_2_2 hi hl Φ 0 0 0 0 0 0 h3 h6 h7 h8 z14 z15 z17 (fun hl' f b => h hl' f (fun σ hσ j hj => ?_))
        have := b σ hσ j hj
        simp (decide := true) only [opM, ↓reduceIte, lA, lBv, lCv] at this ⊢
        exact this
      · skip
        refine jn_16_3_3_3 hi hl Φ 0 0 0 0 0 0 h3 h6 h7 h8 z14 z15 z17 (fun hl' f b => h hl' f (fun σ hσ j hj => ?_))
        have := b σ hσ j hj
        simp (decide := true) only [opM, ↓reduceIte, lA, lBv, lCv] at this ⊢
        exact this
  · subst a1; subst a5
    have hc : n1 = 1 ∨ n1 = 2 ∨ n1 = 3 ∨ n1 = 5 ∨ n1 = 6 ∨ n1 = 7 := by omega
    rcases hc with rfl | rfl | rfl | rfl | rfl | rfl
    · skip
      refine jn_17_1_1_1 hi hl Φ 0 0 0 0 0 0 h3 h6 h7 h8 z14 z15 z17 (fun hl' f b => h hl' f (fun σ hσ j hj => ?_))
      have := b σ hσ j hj
      simp (decide := true) only [opM, ↓reduceIte, lA, lBv, lCv] at this ⊢
      exact this
    · skip
      refine jn_17_1_2_2 hi hl Φ 0 0 0 0 0 0 h3 h6 h7 h8 z14 z15 z17 (fun hl' f b => h hl' f (fun σ hσ j hj => ?_))
      have := b σ hσ j hj
      simp (decide := true) only [opM, ↓reduceIte, lA, lBv, lCv] at this ⊢
      exact this
    · skip
      refine jn_17_1_3_3 hi hl Φ 0 0 0 0 0 0 h3 h6 h7 h8 z14 z15 z17 (fun hl' f b => h hl' f (fun σ hσ j hj => ?_))
      have := b σ hσ j hj
      simp (decide := true) only [opM, ↓reduceIte, lA, lBv, lCv] at this ⊢
      exact this
    · skip
      refine jn_17_1_2_2 hi hl Φ 0 0 0 0 0 0 h3 h6 h7 h8 z14 z15 z17 (fun hl' f b => h hl' f (fun σ hσ j hj => ?_))
      have := b σ hσ j hj
      simp (decide := true) only [opM, ↓reduceIte, lA, lBv, lCv] at this ⊢
      exact this
    · skip
      refine jn_17_1_4_4 hi hl Φ 0 0 0 0 0 0 h3 h6 h7 h8 z14 z15 z17 (fun hl' f b => h hl' f (fun σ hσ j hj => ?_))
      have := b σ hσ j hj
      simp (decide := true) only [opM, ↓reduceIte, lA, lBv, lCv] at this ⊢
      exact this
    · skip
      refine jn_17_1_6_6 hi hl Φ 0 0 0 0 0 0 h3 h6 h7 h8 z14 z15 z17 (fun hl' f b => h hl' f (fun σ hσ j hj => ?_))
      have := b σ hσ j hj
      simp (decide := true) only [opM, ↓reduceIte, lA, lBv, lCv] at this ⊢
      exact this
  · rcases k with rfl | rfl
    · subst a1; subst a4
      have hc : n1 = 1 ∨ n1 = 2 ∨ n1 = 3 := by omega
      rcases hc with rfl | rfl | rfl
      · skip
        refine jn_18_1_1_1 hi hl Φ 0 0 0 0 0 0 h3 h6 h7 h8 z14 z15 z17 (fun hl' f b => h hl' f (fun σ hσ j hj => ?_))
        have := b σ hσ j hj
        simp (decide := true) only [opM, ↓reduceIte, lA, lBv, lCv] at this ⊢
        exact this
      · skip
        refine jn_18_1_2_2 hi hl Φ 0 0 0 0 0 0 h3 h6 h7 h8 z14 z15 z17 (fun hl' f b => h hl' f (fun σ hσ j hj => ?_))
        have := b σ hσ j hj
        simp (decide := true) only [opM, ↓reduceIte, lA, lBv, lCv] at this ⊢
        exact this
      · skip
        refine jn_18_1_3_3 hi hl Φ 0 0 0 0 0 0 h3 h6 h7 h8 z14 z15 z17 (fun hl' f b => h hl' f (fun σ hσ j hj => ?_))
        have := b σ hσ j hj
        simp (decide := true) only [opM, ↓reduceIte, lA, lBv, lCv] at this ⊢
        exact this
    · subst a1; subst a4
      have hc : n1 = 1 ∨ n1 = 2 ∨ n1 = 3 := by omega
      rcases hc with rfl | rfl | rfl
      · skip
        refine jn_19_1_1_1 hi hl Φ 0 0 0 0 0 h3 h6 h7 h8 z14 z15 z17 (fun hl' f b => h hl' f (fun σ hσ j hj => ?_))
        have := b σ hσ j hj
        simp (decide := true) only [opM, ↓reduceIte, lA, lBv, lCv] at this ⊢
        exact this
      · skip
        refine jn_19_1_2_2 hi hl Φ 0 0 0 0 0 h3 h6 h7 h8 z14 z15 z17 (fun hl' f b => h hl' f (fun σ hσ j hj => ?_))
        have := b σ hσ j hj
        simp (decide := true) only [opM, ↓reduceIte, lA, lBv, lCv] at this ⊢
        exact this
      · skip
        refine jn_19_1_3_3 hi hl Φ 0 0 0 0 0 h3 h6 h7 h8 z14 z15 z17 (fun hl' f b => h hl' f (fun σ hσ j hj => ?_))
        have := b σ hσ j hj
        simp (decide := true) only [opM, ↓reduceIte, lA, lBv, lCv] at this ⊢
        exact this
  · subst a4
    have hc : n0 = 1 ∧ n1 = 1 ∨ n0 = 1 ∧ n1 = 2 ∨ n0 = 2 ∧ n1 = 1 := by omega
    rcases hc with ⟨rfl, rfl⟩ | ⟨rfl, rfl⟩ | ⟨rfl, rfl⟩
    · skip
      refine jn_20_2_1_1 hi hl Φ 0 0 0 0 0 h3 h6 h7 h8 z14 z15 z17 (fun hl' f b => h hl' f (fun σ hσ j hj => ?_))
      have := b σ hσ j hj
      simp (decide := true) only [opM, ↓reduceIte, lA, lBv, lCv] at this ⊢
      exact this
    · skip
      refine jn_20_3_1_2 hi hl Φ 0 0 0 0 0 h3 h6 h7 h8 z14 z15 z17 (fun hl' f b => h hl' f (fun σ hσ j hj => ?_))
      have := b σ hσ j hj
      simp (decide := true) only [opM, ↓reduceIte, lA, lBv, lCv] at this ⊢
      exact this
    · skip
      refine jn_20_3_2_1 hi hl Φ 0 0 0 0 0 h3 h6 h7 h8 z14 z15 z17 (fun hl' f b => h hl' f (fun σ hσ j hj => ?_))
      have := b σ hσ j hj
      simp (decide := true) only [opM, ↓reduceIte, lA, lBv, lCv] at this ⊢
      exact this
  · subst a4
    have hc : n0 = 1 ∧ S = 1 ∧ l = 0 ∨ n0 = 2 ∧ S = 1 ∧ l = 0 ∨ n0 = 2 ∧ S = 1 ∧ l = 1 ∨ n0 = 2 ∧ S = 2 ∧ l = 0 ∨ n0 = 3 ∧ S = 1 ∧ l = 0 ∨ n0 = 3 ∧ S = 1 ∧ l = 1 ∨ n0 = 3 ∧ S = 1 ∧ l = 2 ∨ n0 = 3 ∧ S = 2 ∧ l = 0 ∨ n0 = 3 ∧ S = 2 ∧ l = 1 ∨ n0 = 3 ∧ S = 3 ∧ l = 0 := by omega
    rcases hc with ⟨rfl, rfl, rfl⟩ | ⟨rfl, rfl, rfl⟩ | ⟨rfl, rfl, rfl⟩ | ⟨rfl, rfl, rfl⟩ | ⟨rfl, rfl, rfl⟩ | ⟨rfl, rfl, rfl⟩ | ⟨rfl, rfl, rfl⟩ | ⟨rfl, rfl, rfl⟩ | ⟨rfl, rfl, rfl⟩ | ⟨rfl, rfl, rfl⟩
    · skip
      refine jn_21_1_1_0_0 hi hl Φ 0 0 0 0 0 h3 h6 h7 h8 (h91 rfl) z14 z15 z17 (fun hl' f b => h hl' f (fun σ hσ j hj => ?_))
      have := b σ hσ j hj
      simp (decide := true) only [opM, ↓reduceIte, lA, lBv, lCv] at this ⊢
      exact this
    · skip
      refine jn_21_1_2_0_0 hi hl Φ 0 0 0 0 0 h3 h6 h7 h8 (h91 rfl) z14 z15 z17 (fun hl' f b => h hl' f (fun σ hσ j hj => ?_))
      have := b σ hσ j hj
      simp (decide := true) only [opM, ↓reduceIte, lA, lBv, lCv] at this ⊢
      exact this
    · skip
      refine jn_21_1_2_0_1 hi hl Φ 0 0 0 0 0 h3 h6 h7 h8 (h91 rfl) z14 z15 z17 (fun hl' f b => h hl' f (fun σ hσ j hj => ?_))
      have := b σ hσ j hj
      simp (decide := true) only [opM, ↓reduceIte, lA, lBv, lCv] at this ⊢
      exact this
    · skip
      refine jn_21_2_2_0_0 hi hl Φ 0 0 0 0 0 h3 h6 h7 h8 (h91 rfl) z14 z15 z17 (fun hl' f b => h hl' f (fun σ hσ j hj => ?_))
      have := b σ hσ j hj
      simp (decide := true) only [opM, ↓reduceIte, lA, lBv, lCv] at this ⊢
      exact this
    · skip
      refine jn_21_1_3_0_0 hi hl Φ 0 0 0 0 0 h3 h6 h7 h8 (h91 rfl) z14 z15 z17 (fun hl' f b => h hl' f (fun σ hσ j hj => ?_))
      have := b σ hσ j hj
      simp (decide := true) only [opM, ↓reduceIte, lA, lBv, lCv] at this ⊢
      exact this
    · skip
      refine jn_21_1_3_0_1 hi hl Φ 0 0 0 0 0 h3 h6 h7 h8 (h91 rfl) z14 z15 z17 (fun hl' f b => h hl' f (fun σ hσ j hj => ?_))
      have := b σ hσ j hj
      simp (decide := true) only [opM, ↓reduceIte, lA, lBv, lCv] at this ⊢
      exact this
    · skip
      refine jn_21_1_3_0_2 hi hl Φ 0 0 0 0 0 h3 h6 h7 h8 (h91 rfl) z14 z15 z17 (fun hl' f b => h hl' f (fun σ hσ j hj => ?_))
      have := b σ hσ j hj
      simp (decide := true) only [opM, ↓reduceIte, lA, lBv, lCv] at this ⊢
      exact this
    · skip
      refine jn_21_2_3_0_0 hi hl Φ 0 0 0 0 0 h3 h6 h7 h8 (h91 rfl) z14 z15 z17 (fun hl' f b => h hl' f (fun σ hσ j hj => ?_))
      have := b σ hσ j hj
      simp (decide := true) only [opM, ↓reduceIte, lA, lBv, lCv] at this ⊢
      exact this
    · skip
      refine jn_21_2_3_0_1 hi hl Φ 0 0 0 0 0 h3 h6 h7 h8 (h91 rfl) z14 z15 z17 (fun hl' f b => h hl' f (fun σ hσ j hj => ?_))
      have := b σ hσ j hj
      simp (decide := true) only [opM, ↓reduceIte, lA, lBv, lCv] at this ⊢
      exact this
    · skip
      refine jn_21_3_3_0_0 hi hl Φ 0 0 0 0 0 h3 h6 h7 h8 (h91 rfl) z14 z15 z17 (fun hl' f b => h hl' f (fun σ hσ j hj => ?_))
      have := b σ hσ j hj
      simp (decide := true) only [opM, ↓reduceIte, lA, lBv, lCv] at this ⊢
      exact this
  · rcases k with rfl | rfl
    · subst a4
      have hc : S = 1 ∧ n0 = 1 ∨ S = 2 ∧ n0 = 1 ∨ S = 2 ∧ n0 = 2 ∨ S = 3 ∧ n0 = 1 ∨ S = 3 ∧ n0 = 2 ∨ S = 3 ∧ n0 = 3 := by omega
      rcases hc with ⟨rfl, rfl⟩ | ⟨rfl, rfl⟩ | ⟨rfl, rfl⟩ | ⟨rfl, rfl⟩ | ⟨rfl, rfl⟩ | ⟨rfl, rfl⟩
      · skip
        refine jn_22_1_1_0 hi hl Φ 0 0 0 0 0 0 0 h3 h6 h7 h8 z14 z15 z17 (fun hl' f b => h hl' f (fun σ hσ j hj => ?_))
        have := b σ hσ j hj
        simp (decide := true) only [opM, ↓reduceIte, lA, lBv, lCv] at this ⊢
        exact this
      · skip
        refine jn_22_2_1_0 hi hl Φ 0 0 0 0 0 0 0 h3 h6 h7 h8 z14 z15 z17 (fun hl' f b => h hl' f (fun σ hσ j hj => ?_))
        have := b σ hσ j hj
        simp (decide := true) only [opM, ↓reduceIte, lA, lBv, lCv] at this ⊢
        exact this
      · skip
        refine jn_22_2_2_0 hi hl Φ 0 0 0 0 0 0 0 h3 h6 h7 h8 z14 z15 z17 (fun hl' f b => h hl' f (fun σ hσ j hj => ?_))
        have := b σ hσ j hj
        simp (decide := true) only [opM, ↓reduceIte, lA, lBv, lCv] at this ⊢
        exact this
      · skip
        refine jn_22_3_1_0 hi hl Φ 0 0 0 0 0 0 0 h3 h6 h7 h8 z14 z15 z17 (fun hl' f b => h hl' f (fun σ hσ j hj => ?_))
        have := b σ hσ j hj
        simp (decide := true) only [opM, ↓reduceIte, lA, lBv, lCv] at this ⊢
        exact this
      · skip
        refine jn_22_3_2_0 hi hl Φ 0 0 0 0 0 0 0 h3 h6 h7 h8 z14 z15 z17 (fun hl' f b => h hl' f (fun σ hσ j hj => ?_))
        have := b σ hσ j hj
        simp (decide := true) only [opM, ↓reduceIte, lA, lBv, lCv] at this ⊢
        exact this
      · skip
        refine jn_22_3_3_0 hi hl Φ 0 0 0 0 0 0 0 h3 h6 h7 h8 z14 z15 z17 (fun hl' f b => h hl' f (fun σ hσ j hj => ?_))
        have := b σ hσ j hj
        simp (decide := true) only [opM, ↓reduceIte, lA, lBv, lCv] at this ⊢
        exact this
    · subst a4
      have hc : S = 1 ∧ n0 = 1 ∨ S = 2 ∧ n0 = 1 ∨ S = 2 ∧ n0 = 2 ∨ S = 3 ∧ n0 = 1 ∨ S = 3 ∧ n0 = 2 ∨ S = 3 ∧ n0 = 3 := by omega
      rcases hc with ⟨rfl, rfl⟩ | ⟨rfl, rfl⟩ | ⟨rfl, rfl⟩ | ⟨rfl, rfl⟩ | ⟨rfl, rfl⟩ | ⟨rfl, rfl⟩
      · skip
        refine jn_23_1_1_0 hi hl Φ 0 0 0 0 0 h3 h6 h7 h8 z14 z15 z17 (fun hl' f b => h hl' f (fun σ hσ j hj => ?_))
        have := b σ hσ j hj
        simp (decide := true) only [opM, ↓reduceIte, lA, lBv, lCv] at this ⊢
        exact this
      · skip
        refine jn_23_2_1_0 hi hl Φ 0 0 0 0 0 h3 h6 h7 h8 z14 z15 z17 (fun hl' f b => h hl' f (fun σ hσ j hj => ?_))
        have := b σ hσ j hj
        simp (decide := true) only [opM, ↓reduceIte, lA, lBv, lCv] at this ⊢
        exact this
      · skip
        refine jn_23_2_2_0 hi hl Φ 0 0 0 0 0 h3 h6 h7 h8 z14 z15 z17 (fun hl' f b => h hl' f (fun σ hσ j hj => ?_))
        have := b σ hσ j hj
        simp (decide := true) only [opM, ↓reduceIte, lA, lBv, lCv] at this ⊢
        exact this
      · skip
        refine jn_23_3_1_0 hi hl Φ 0 0 0 0 0 h3 h6 h7 h8 z14 z15 z17 (fun hl' f b => h hl' f (fun σ hσ j hj => ?_))
        have := b σ hσ j hj
        simp (decide := true) only [opM, ↓reduceIte, lA, lBv, lCv] at this ⊢
        exact this
      · skip
        refine jn_23_3_2_0 hi hl Φ 0 0 0 0 0 h3 h6 h7 h8 z14 z15 z17 (fun hl' f b => h hl' f (fun σ hσ j hj => ?_))
        have := b σ hσ j hj
        simp (decide := true) only [opM, ↓reduceIte, lA, lBv, lCv] at this ⊢
        exact this
      · skip
        refine jn_23_3_3_0 hi hl Φ 0 0 0 0 0 h3 h6 h7 h8 z14 z15 z17 (fun hl' f b => h hl' f (fun σ hσ j hj => ?_))
        have := b σ hσ j hj
        simp (decide := true) only [opM, ↓reduceIte, lA, lBv, lCv] at this ⊢
        exact this
  · subst a4; subst a5; subst a6
    have hb6 : bts n2 ≤ 6 := bts_7 a2
    refine jn_24 hi hl Φ (bts n2) hb6 0 0 0 0 0 h3 h6 (fun hl' f b => h hl' f (fun σ hσ j hj => ?_))
    have := b σ hσ j hj
    simp (decide := true) only [opM, ↓reduceIte, lA, lBv, lCv] at this ⊢
    exact this
  · subst a3; subst a4
    have hc : S = 1 ∨ S = 2 ∨ S = 3 := by omega
    rcases hc with rfl | rfl | rfl
    · skip
      refine jn_25_1_2_1 hi hl Φ 0 0 0 0 0 h3 h6 h7 h8 z14 z15 z17 (fun hl' f b => h hl' f (fun σ hσ j hj => ?_))
      have := b σ hσ j hj
      simp (decide := true) only [opM, ↓reduceIte, lA, lBv, lCv] at this ⊢
      exact this
    · skip
      refine jn_25_2_4_1 hi hl Φ 0 0 0 0 0 h3 h6 h7 h8 z14 z15 z17 (fun hl' f b => h hl' f (fun σ hσ j hj => ?_))
      have := b σ hσ j hj
      simp (decide := true) only [opM, ↓reduceIte, lA, lBv, lCv] at this ⊢
      exact this
    · skip
      refine jn_25_3_6_1 hi hl Φ 0 0 0 0 0 h3 h6 h7 h8 z14 z15 z17 (fun hl' f b => h hl' f (fun σ hσ j hj => ?_))
      have := b σ hσ j hj
      simp (decide := true) only [opM, ↓reduceIte, lA, lBv, lCv] at this ⊢
      exact this
  · subst a3; subst a4; subst a5
    have hc : n0 = 5 ∨ n0 = 6 ∨ n0 = 7 := by omega
    rcases hc with rfl | rfl | rfl
    · refine jn_26_1 hi hl Φ 0 0 0 0 h3 h6 (fun hl' f b => h hl' f (fun σ hσ j hj => ?_))
      have := b σ hσ j hj
      simp (decide := true) only [opM, ↓reduceIte, lA, lBv, lCv] at this ⊢
      exact this
    · refine jn_26_2 hi hl Φ 0 0 0 0 h3 h6 (fun hl' f b => h hl' f (fun σ hσ j hj => ?_))
      have := b σ hσ j hj
      simp (decide := true) only [opM, ↓reduceIte, lA, lBv, lCv] at this ⊢
      exact this
    · refine jn_26_3 hi hl Φ 0 0 0 0 h3 h6 (fun hl' f b => h hl' f (fun σ hσ j hj => ?_))
      have := b σ hσ j hj
      simp (decide := true) only [opM, ↓reduceIte, lA, lBv, lCv] at this ⊢
      exact this
