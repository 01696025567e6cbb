/-! the lines with the new one (printed by wip/whole/pure/wfn.py) -/
theorem N5 {d d' : HI} {n w κ : Nat} (h : NL d d' n w κ) : d' 5 n = nI κ := by
  have hκ := h.2.2.2.1
  obtain ⟨f, hf⟩ := NL_f h
  have hc : κ = 0 ∨ κ = 1 ∨ κ = 2 ∨ κ = 3 ∨ κ = 4 ∨ κ = 5 ∨ κ = 6 ∨ κ = 7 ∨ κ = 8 ∨ κ = 9 ∨ κ = 10 ∨ κ = 11 ∨ κ = 12 ∨ κ = 13 ∨ κ = 14 ∨ κ = 15 ∨ κ = 16 ∨ κ = 17 ∨ κ = 18 ∨ κ = 19 ∨ κ = 20 ∨ κ = 21 ∨ κ = 22 ∨ κ = 23 ∨ κ = 24 ∨ κ = 25 ∨ κ = 26 ∨ κ = 27 ∨ κ = 28 ∨ κ = 29 ∨ κ = 30 := by omega
  rcases hc with rfl | rfl | rfl | rfl | rfl | rfl | rfl | rfl | rfl | rfl | rfl | rfl | rfl | rfl | rfl | rfl | rfl | rfl | rfl | rfl | rfl | rfl | rfl | rfl | rfl | rfl | rfl | rfl | rfl | rfl | rfl
  · rw [hf 5 (by omega) (by omega)]
    simp (decide := true) only [FN, ↓reduceIte]
    unfold FNs; split <;> simp (decide := true) only [f1, fI, ↓reduceIte]
  · rw [hf 5 (by omega) (by omega)]
    simp (decide := true) only [FN, FNr, FNs, fA, fB, fC, f2, f1, fI, ↓reduceIte]
  · rw [hf 5 (by omega) (by omega)]
    simp (decide := true) only [FN, FNr, FNs, fA, fB, fC, f2, f1, fI, ↓reduceIte]
  · rw [hf 5 (by omega) (by omega)]
    simp (decide := true) only [FN, FNr, FNs, fA, fB, fC, f2, f1, fI, ↓reduceIte]
  · rw [hf 5 (by omega) (by omega)]
    simp (decide := true) only [FN, FNr, FNs, fA, fB, fC, f2, f1, fI, ↓reduceIte]
  · rw [hf 5 (by omega) (by omega)]
    simp (decide := true) only [FN, FNr, FNs, fA, fB, fC, f2, f1, fI, ↓reduceIte]
  · rw [hf 5 (by omega) (by omega)]
    simp (decide := true) only [FN, FNr, FNs, fA, fB, fC, f2, f1, fI, ↓reduceIte]
  · rw [hf 5 (by omega) (by omega)]
    simp (decide := true) only [FN, FNr, FNs, fA, fB, fC, f2, f1, fI, ↓reduceIte]
  · rw [hf 5 (by omega) (by omega)]
    simp (decide := true) only [FN, FNr, FNs, fA, fB, fC, f2, f1, fI, ↓reduceIte]
  · rw [hf 5 (by omega) (by omega)]
    simp (decide := true) only [FN, FNr, FNs, fA, fB, fC, f2, f1, fI, ↓reduceIte]
  · rw [hf 5 (by omega) (by omega)]
    simp (decide := true) only [FN, FNr, FNs, fA, fB, fC, f2, f1, fI, ↓reduceIte]
  · rw [hf 5 (by omega) (by omega)]
    simp (decide := true) only [FN, FNr, FNs, fA, fB, fC, f2, f1, fI, ↓reduceIte]
  · rw [hf 5 (by omega) (by omega)]
    simp (decide := true) only [FN, FNr, FNs, fA, fB, fC, f2, f1, fI, ↓reduceIte]
  · rw [hf 5 (by omega) (by omega)]
    simp (decide := true) only [FN, FNr, FNs, fA, fB, fC, f2, f1, fI, ↓reduceIte]
  · rw [hf 5 (by omega) (by omega)]
    simp (decide := true) only [FN, FNr, FNs, fA, fB, fC, f2, f1, fI, ↓reduceIte]
  · rw [hf 5 (by omega) (by omega)]
    simp (decide := true) only [FN, FNr, FNs, fA, fB, fC, f2, f1, fI, ↓reduceIte]
  · rw [hf 5 (by omega) (by omega)]
    simp (decide := true) only [FN, FNr, FNs, fA, fB, fC, f2, f1, fI, ↓reduceIte]
  · rw [hf 5 (by omega) (by omega)]
    simp (decide := true) only [FN, FNr, FNs, fA, fB, fC, f2, f1, fI, ↓reduceIte]
  · rw [hf 5 (by omega) (by omega)]
    simp (decide := true) only [FN, FNr, FNs, fA, fB, fC, f2, f1, fI, ↓reduceIte]
  · rw [hf 5 (by omega) (by omega)]
    simp (decide := true) only [FN, FNr, FNs, fA, fB, fC, f2, f1, fI, ↓reduceIte]
  · rw [hf 5 (by omega) (by omega)]
    simp (decide := true) only [FN, FNr, FNs, fA, fB, fC, f2, f1, fI, ↓reduceIte]
  · rw [hf 5 (by omega) (by omega)]
    simp (decide := true) only [FN, FNr, FNs, fA, fB, fC, f2, f1, fI, ↓reduceIte]
  · rw [hf 5 (by omega) (by omega)]
    simp (decide := true) only [FN, FNr, FNs, fA, fB, fC, f2, f1, fI, ↓reduceIte]
  · rw [hf 5 (by omega) (by omega)]
    simp (decide := true) only [FN, FNr, FNs, fA, fB, fC, f2, f1, fI, ↓reduceIte]
  · rw [hf 5 (by omega) (by omega)]
    simp (decide := true) only [FN, FNr, FNs, fA, fB, fC, f2, f1, fI, ↓reduceIte]
  · rw [hf 5 (by omega) (by omega)]
    simp (decide := true) only [FN, FNr, FNs, fA, fB, fC, f2, f1, fI, ↓reduceIte]
  · rw [hf 5 (by omega) (by omega)]
    simp (decide := true) only [FN, FNr, FNs, fA, fB, fC, f2, f1, fI, ↓reduceIte]
  · rw [hf 5 (by omega) (by omega)]
    simp (decide := true) only [FN, FNr, FNs, fA, fB, fC, f2, f1, fI, ↓reduceIte]
  · rw [hf 5 (by omega) (by omega)]
    simp (decide := true) only [FN, FNr, FNs, fA, fB, fC, f2, f1, fI, ↓reduceIte]
  · rw [hf 5 (by omega) (by omega)]
    simp (decide := true) only [FN, FNr, FNs, fA, fB, fC, f2, f1, fI, ↓reduceIte]
  · rw [hf 5 (by omega) (by omega)]
    simp (decide := true) only [FN, FNr, FNs, fA, fB, fC, f2, f1, fI, ↓reduceIte]
theorem N4 {d d' : HI} {n w κ : Nat} (h : NL d d' n w κ) : d' 4 n = NU d w 0 := by
  have hκ := h.2.2.2.1
  obtain ⟨f, hf⟩ := NL_f h
  have hc : κ = 0 ∨ κ = 1 ∨ κ = 2 ∨ κ = 3 ∨ κ = 4 ∨ κ = 5 ∨ κ = 6 ∨ κ = 7 ∨ κ = 8 ∨ κ = 9 ∨ κ = 10 ∨ κ = 11 ∨ κ = 12 ∨ κ = 13 ∨ κ = 14 ∨ κ = 15 ∨ κ = 16 ∨ κ = 17 ∨ κ = 18 ∨ κ = 19 ∨ κ = 20 ∨ κ = 21 ∨ κ = 22 ∨ κ = 23 ∨ κ = 24 ∨ κ = 25 ∨ κ = 26 ∨ κ = 27 ∨ κ = 28 ∨ κ = 29 ∨ κ = 30 := by omega
  rcases hc with rfl | rfl | rfl | rfl | rfl | rfl | rfl | rfl | rfl | rfl | rfl | rfl | rfl | rfl | rfl | rfl | rfl | rfl | rfl | rfl | rfl | rfl | rfl | rfl | rfl | rfl | rfl | rfl | rfl | rfl | rfl
  · rw [hf 4 (by omega) (by omega)]
    simp (decide := true) only [FN, ↓reduceIte]
    unfold FNs; split <;> simp (decide := true) only [f1, fI, ↓reduceIte]
  · rw [hf 4 (by omega) (by omega)]
    simp (decide := true) only [FN, FNr, FNs, fA, fB, fC, f2, f1, fI, ↓reduceIte]
  · rw [hf 4 (by omega) (by omega)]
    simp (decide := true) only [FN, FNr, FNs, fA, fB, fC, f2, f1, fI, ↓reduceIte]
  · rw [hf 4 (by omega) (by omega)]
    simp (decide := true) only [FN, FNr, FNs, fA, fB, fC, f2, f1, fI, ↓reduceIte]
  · rw [hf 4 (by omega) (by omega)]
    simp (decide := true) only [FN, FNr, FNs, fA, fB, fC, f2, f1, fI, ↓reduceIte]
  · rw [hf 4 (by omega) (by omega)]
    simp (decide := true) only [FN, FNr, FNs, fA, fB, fC, f2, f1, fI, ↓reduceIte]
  · rw [hf 4 (by omega) (by omega)]
    simp (decide := true) only [FN, FNr, FNs, fA, fB, fC, f2, f1, fI, ↓reduceIte]
  · rw [hf 4 (by omega) (by omega)]
    simp (decide := true) only [FN, FNr, FNs, fA, fB, fC, f2, f1, fI, ↓reduceIte]
  · rw [hf 4 (by omega) (by omega)]
    simp (decide := true) only [FN, FNr, FNs, fA, fB, fC, f2, f1, fI, ↓reduceIte]
  · rw [hf 4 (by omega) (by omega)]
    simp (decide := true) only [FN, FNr, FNs, fA, fB, fC, f2, f1, fI, ↓reduceIte]
  · rw [hf 4 (by omega) (by omega)]
    simp (decide := true) only [FN, FNr, FNs, fA, fB, fC, f2, f1, fI, ↓reduceIte]
  · rw [hf 4 (by omega) (by omega)]
    simp (decide := true) only [FN, FNr, FNs, fA, fB, fC, f2, f1, fI, ↓reduceIte]
  · rw [hf 4 (by omega) (by omega)]
    simp (decide := true) only [FN, FNr, FNs, fA, fB, fC, f2, f1, fI, ↓reduceIte]
  · rw [hf 4 (by omega) (by omega)]
    simp (decide := true) only [FN, FNr, FNs, fA, fB, fC, f2, f1, fI, ↓reduceIte]
  · rw [hf 4 (by omega) (by omega)]
    simp (decide := true) only [FN, FNr, FNs, fA, fB, fC, f2, f1, fI, ↓reduceIte]
  · rw [hf 4 (by omega) (by omega)]
    simp (decide := true) only [FN, FNr, FNs, fA, fB, fC, f2, f1, fI, ↓reduceIte]
  · rw [hf 4 (by omega) (by omega)]
    simp (decide := true) only [FN, FNr, FNs, fA, fB, fC, f2, f1, fI, ↓reduceIte]
  · rw [hf 4 (by omega) (by omega)]
    simp (decide := true) only [FN, FNr, FNs, fA, fB, fC, f2, f1, fI, ↓reduceIte]
  · rw [hf 4 (by omega) (by omega)]
    simp (decide := true) only [FN, FNr, FNs, fA, fB, fC, f2, f1, fI, ↓reduceIte]
  · rw [hf 4 (by omega) (by omega)]
    simp (decide := true) only [FN, FNr, FNs, fA, fB, fC, f2, f1, fI, ↓reduceIte]
  · rw [hf 4 (by omega) (by omega)]
    simp (decide := true) only [FN, FNr, FNs, fA, fB, fC, f2, f1, fI, ↓reduceIte]
  · rw [hf 4 (by omega) (by omega)]
    simp (decide := true) only [FN, FNr, FNs, fA, fB, fC, f2, f1, fI, ↓reduceIte]
  · rw [hf 4 (by omega) (by omega)]
    simp (decide := true) only [FN, FNr, FNs, fA, fB, fC, f2, f1, fI, ↓reduceIte]
  · rw [hf 4 (by omega) (by omega)]
    simp (decide := true) only [FN, FNr, FNs, fA, fB, fC, f2, f1, fI, ↓reduceIte]
  · rw [hf 4 (by omega) (by omega)]
    simp (decide := true) only [FN, FNr, FNs, fA, fB, fC, f2, f1, fI, ↓reduceIte]
  · rw [hf 4 (by omega) (by omega)]
    simp (decide := true) only [FN, FNr, FNs, fA, fB, fC, f2, f1, fI, ↓reduceIte]
  · rw [hf 4 (by omega) (by omega)]
    simp (decide := true) only [FN, FNr, FNs, fA, fB, fC, f2, f1, fI, ↓reduceIte]
  · rw [hf 4 (by omega) (by omega)]
    simp (decide := true) only [FN, FNr, FNs, fA, fB, fC, f2, f1, fI, ↓reduceIte]
  · rw [hf 4 (by omega) (by omega)]
    simp (decide := true) only [FN, FNr, FNs, fA, fB, fC, f2, f1, fI, ↓reduceIte]
  · rw [hf 4 (by omega) (by omega)]
    simp (decide := true) only [FN, FNr, FNs, fA, fB, fC, f2, f1, fI, ↓reduceIte]
  · rw [hf 4 (by omega) (by omega)]
    simp (decide := true) only [FN, FNr, FNs, fA, fB, fC, f2, f1, fI, ↓reduceIte]
theorem N6 {d d' : HI} {n w κ : Nat} (h : NL d d' n w κ) (hk : 1 ≤ κ ∧ κ ≤ 26) : d' 6 n = SW d n w 2 ∧ 0 ≤ SW d n w 2 := by
  have hκ := h.2.2.2.1
  obtain ⟨f, hf⟩ := NL_f h
  have hc : κ = 1 ∨ κ = 2 ∨ κ = 3 ∨ κ = 4 ∨ κ = 5 ∨ κ = 6 ∨ κ = 7 ∨ κ = 8 ∨ κ = 9 ∨ κ = 10 ∨ κ = 11 ∨ κ = 12 ∨ κ = 13 ∨ κ = 14 ∨ κ = 15 ∨ κ = 16 ∨ κ = 17 ∨ κ = 18 ∨ κ = 19 ∨ κ = 20 ∨ κ = 21 ∨ κ = 22 ∨ κ = 23 ∨ κ = 24 ∨ κ = 25 ∨ κ = 26 := by omega
  rcases hc with rfl | rfl | rfl | rfl | rfl | rfl | rfl | rfl | rfl | rfl | rfl | rfl | rfl | rfl | rfl | rfl | rfl | rfl | rfl | rfl | rfl | rfl | rfl | rfl | rfl | rfl
  · have z := (NL_a h).2.2
    rw [CK_1] at z
    simp only [List.all_cons, List.all_nil, Bool.and_eq_true, id, and_true] at z
    refine ⟨?_, (of_decide_eq_true z).1⟩
    rw [hf 6 (by omega) (by omega)]
    simp (decide := true) only [FN, FNr, FNs, fA, fB, fC, f2, f1, fI, ↓reduceIte]
  · have z := (NL_a h).2.2
    rw [CK_2] at z
    simp only [List.all_cons, List.all_nil, Bool.and_eq_true, id, and_true] at z
    refine ⟨?_, (of_decide_eq_true z).1⟩
    rw [hf 6 (by omega) (by omega)]
    simp (decide := true) only [FN, FNr, FNs, fA, fB, fC, f2, f1, fI, ↓reduceIte]
  · have z := (NL_a h).2.2
    rw [CK_3] at z
    simp only [List.all_cons, List.all_nil, Bool.and_eq_true, id, and_true] at z
    refine ⟨?_, (C2_t z.1).1⟩
    rw [hf 6 (by omega) (by omega)]
    simp (decide := true) only [FN, FNr, FNs, fA, fB, fC, f2, f1, fI, ↓reduceIte]
  · have z := (NL_a h).2.2
    rw [CK_4] at z
    simp only [List.all_cons, List.all_nil, Bool.and_eq_true, id, and_true] at z
    refine ⟨?_, (C2_t z.1).1⟩
    rw [hf 6 (by omega) (by omega)]
    simp (decide := true) only [FN, FNr, FNs, fA, fB, fC, f2, f1, fI, ↓reduceIte]
  · have z := (NL_a h).2.2
    rw [CK_5] at z
    simp only [List.all_cons, List.all_nil, Bool.and_eq_true, id, and_true] at z
    refine ⟨?_, (C2_t z.1).1⟩
    rw [hf 6 (by omega) (by omega)]
    simp (decide := true) only [FN, FNr, FNs, fA, fB, fC, f2, f1, fI, ↓reduceIte]
  · have z := (NL_a h).2.2
    rw [CK_6] at z
    simp only [List.all_cons, List.all_nil, Bool.and_eq_true, id, and_true] at z
    refine ⟨?_, (C2_t z.1).1⟩
    rw [hf 6 (by omega) (by omega)]
    simp (decide := true) only [FN, FNr, FNs, fA, fB, fC, f2, f1, fI, ↓reduceIte]
  · have z := (NL_a h).2.2
    rw [CK_7] at z
    simp only [List.all_cons, List.all_nil, Bool.and_eq_true, id, and_true] at z
    refine ⟨?_, (C2_t z.1).1⟩
    rw [hf 6 (by omega) (by omega)]
    simp (decide := true) only [FN, FNr, FNs, fA, fB, fC, f2, f1, fI, ↓reduceIte]
  · have z := (NL_a h).2.2
    rw [CK_8] at z
    simp only [List.all_cons, List.all_nil, Bool.and_eq_true, id, and_true] at z
    refine ⟨?_, (C2_t z.1).1⟩
    rw [hf 6 (by omega) (by omega)]
    simp (decide := true) only [FN, FNr, FNs, fA, fB, fC, f2, f1, fI, ↓reduceIte]
  · have z := (NL_a h).2.2
    rw [CK_9] at z
    simp only [List.all_cons, List.all_nil, Bool.and_eq_true, id, and_true] at z
    refine ⟨?_, (C2_t z.1).1⟩
    rw [hf 6 (by omega) (by omega)]
    simp (decide := true) only [FN, FNr, FNs, fA, fB, fC, f2, f1, fI, ↓reduceIte]
  · have z := (NL_a h).2.2
    rw [CK_10] at z
    simp only [List.all_cons, List.all_nil, Bool.and_eq_true, id, and_true] at z
    refine ⟨?_, (C2_t z.1).1⟩
    rw [hf 6 (by omega) (by omega)]
    simp (decide := true) only [FN, FNr, FNs, fA, fB, fC, f2, f1, fI, ↓reduceIte]
  · have z := (NL_a h).2.2
    rw [CK_11] at z
    simp only [List.all_cons, List.all_nil, Bool.and_eq_true, id, and_true] at z
    refine ⟨?_, (C2_t z.1).1⟩
    rw [hf 6 (by omega) (by omega)]
    simp (decide := true) only [FN, FNr, FNs, fA, fB, fC, f2, f1, fI, ↓reduceIte]
  · have z := (NL_a h).2.2
    rw [CK_12] at z
    simp only [List.all_cons, List.all_nil, Bool.and_eq_true, id, and_true] at z
    refine ⟨?_, (C2_t z.1).1⟩
    rw [hf 6 (by omega) (by omega)]
    simp (decide := true) only [FN, FNr, FNs, fA, fB, fC, f2, f1, fI, ↓reduceIte]
  · have z := (NL_a h).2.2
    rw [CK_13] at z
    simp only [List.all_cons, List.all_nil, Bool.and_eq_true, id, and_true] at z
    refine ⟨?_, (C2_t z.1).1⟩
    rw [hf 6 (by omega) (by omega)]
    simp (decide := true) only [FN, FNr, FNs, fA, fB, fC, f2, f1, fI, ↓reduceIte]
  · have z := (NL_a h).2.2
    rw [CK_14] at z
    simp only [List.all_cons, List.all_nil, Bool.and_eq_true, id, and_true] at z
    refine ⟨?_, (C2_t z.1).1⟩
    rw [hf 6 (by omega) (by omega)]
    simp (decide := true) only [FN, FNr, FNs, fA, fB, fC, f2, f1, fI, ↓reduceIte]
  · have z := (NL_a h).2.2
    rw [CK_15] at z
    simp only [List.all_cons, List.all_nil, Bool.and_eq_true, id, and_true] at z
    refine ⟨?_, (C2_t z.1).1⟩
    rw [hf 6 (by omega) (by omega)]
    simp (decide := true) only [FN, FNr, FNs, fA, fB, fC, f2, f1, fI, ↓reduceIte]
  · have z := (NL_a h).2.2
    rw [CK_16] at z
    simp only [List.all_cons, List.all_nil, Bool.and_eq_true, id, and_true] at z
    refine ⟨?_, (C2_t z.1).1⟩
    rw [hf 6 (by omega) (by omega)]
    simp (decide := true) only [FN, FNr, FNs, fA, fB, fC, f2, f1, fI, ↓reduceIte]
  · have z := (NL_a h).2.2
    rw [CK_17] at z
    simp only [List.all_cons, List.all_nil, Bool.and_eq_true, id, and_true] at z
    refine ⟨?_, (C2_t z.1).1⟩
    rw [hf 6 (by omega) (by omega)]
    simp (decide := true) only [FN, FNr, FNs, fA, fB, fC, f2, f1, fI, ↓reduceIte]
  · have z := (NL_a h).2.2
    rw [CK_18] at z
    simp only [List.all_cons, List.all_nil, Bool.and_eq_true, id, and_true] at z
    refine ⟨?_, (C2_t z.1).1⟩
    rw [hf 6 (by omega) (by omega)]
    simp (decide := true) only [FN, FNr, FNs, fA, fB, fC, f2, f1, fI, ↓reduceIte]
  · have z := (NL_a h).2.2
    rw [CK_19] at z
    simp only [List.all_cons, List.all_nil, Bool.and_eq_true, id, and_true] at z
    refine ⟨?_, (C2_t z.1).1⟩
    rw [hf 6 (by omega) (by omega)]
    simp (decide := true) only [FN, FNr, FNs, fA, fB, fC, f2, f1, fI, ↓reduceIte]
  · have z := (NL_a h).2.2
    rw [CK_20] at z
    simp only [List.all_cons, List.all_nil, Bool.and_eq_true, id, and_true] at z
    refine ⟨?_, (C2_t z.1).1⟩
    rw [hf 6 (by omega) (by omega)]
    simp (decide := true) only [FN, FNr, FNs, fA, fB, fC, f2, f1, fI, ↓reduceIte]
  · have z := (NL_a h).2.2
    rw [CK_21] at z
    simp only [List.all_cons, List.all_nil, Bool.and_eq_true, id, and_true] at z
    refine ⟨?_, (C2_t z.1).1⟩
    rw [hf 6 (by omega) (by omega)]
    simp (decide := true) only [FN, FNr, FNs, fA, fB, fC, f2, f1, fI, ↓reduceIte]
  · have z := (NL_a h).2.2
    rw [CK_22] at z
    simp only [List.all_cons, List.all_nil, Bool.and_eq_true, id, and_true] at z
    refine ⟨?_, (C2_t z.1).1⟩
    rw [hf 6 (by omega) (by omega)]
    simp (decide := true) only [FN, FNr, FNs, fA, fB, fC, f2, f1, fI, ↓reduceIte]
  · have z := (NL_a h).2.2
    rw [CK_23] at z
    simp only [List.all_cons, List.all_nil, Bool.and_eq_true, id, and_true] at z
    refine ⟨?_, (C2_t z.1).1⟩
    rw [hf 6 (by omega) (by omega)]
    simp (decide := true) only [FN, FNr, FNs, fA, fB, fC, f2, f1, fI, ↓reduceIte]
  · have z := (NL_a h).2.2
    rw [CK_24] at z
    simp only [List.all_cons, List.all_nil, Bool.and_eq_true, id, and_true] at z
    refine ⟨?_, (C2_t z.1).1⟩
    rw [hf 6 (by omega) (by omega)]
    simp (decide := true) only [FN, FNr, FNs, fA, fB, fC, f2, f1, fI, ↓reduceIte]
  · have z := (NL_a h).2.2
    rw [CK_25] at z
    simp only [List.all_cons, List.all_nil, Bool.and_eq_true, id, and_true] at z
    refine ⟨?_, (C2_t z.1).1⟩
    rw [hf 6 (by omega) (by omega)]
    simp (decide := true) only [FN, FNr, FNs, fA, fB, fC, f2, f1, fI, ↓reduceIte]
  · have z := (NL_a h).2.2
    rw [CK_26] at z
    simp only [List.all_cons, List.all_nil, Bool.and_eq_true, id, and_true] at z
    refine ⟨?_, (C2_t z.1).1⟩
    rw [hf 6 (by omega) (by omega)]
    simp (decide := true) only [FN, FNr, FNs, fA, fB, fC, f2, f1, fI, ↓reduceIte]
theorem N7 {d d' : HI} {n w κ : Nat} (h : NL d d' n w κ) (hk : 1 ≤ κ ∧ κ ≤ 26) : d' 7 n < 0 ∨ ∃ i, i < n ∧ d' 7 n = nI i := by
  have hκ := h.2.2.2.1
  obtain ⟨f, hf⟩ := NL_f h
  have hc : κ = 1 ∨ κ = 2 ∨ κ = 3 ∨ κ = 4 ∨ κ = 5 ∨ κ = 6 ∨ κ = 7 ∨ κ = 8 ∨ κ = 9 ∨ κ = 10 ∨ κ = 11 ∨ κ = 12 ∨ κ = 13 ∨ κ = 14 ∨ κ = 15 ∨ κ = 16 ∨ κ = 17 ∨ κ = 18 ∨ κ = 19 ∨ κ = 20 ∨ κ = 21 ∨ κ = 22 ∨ κ = 23 ∨ κ = 24 ∨ κ = 25 ∨ κ = 26 := by omega
  rcases hc with rfl | rfl | rfl | rfl | rfl | rfl | rfl | rfl | rfl | rfl | rfl | rfl | rfl | rfl | rfl | rfl | rfl | rfl | rfl | rfl | rfl | rfl | rfl | rfl | rfl | rfl
  · left
    rw [hf 7 (by omega) (by omega)]
    simp (decide := true) only [FN, FNr, FNs, fA, fB, fC, f2, f1, fI, ↓reduceIte]
  · left
    rw [hf 7 (by omega) (by omega)]
    simp (decide := true) only [FN, FNr, FNs, fA, fB, fC, f2, f1, fI, ↓reduceIte]
  · left
    rw [hf 7 (by omega) (by omega)]
    simp (decide := true) only [FN, FNr, FNs, fA, fB, fC, f2, f1, fI, ↓reduceIte]
  · have hL := LK_n h
    obtain ⟨i, hi, ei, _⟩ := hL.2.2.1 (by decide) (by decide)
    exact Or.inr ⟨i, hi, ei⟩
  · have hL := LK_n h
    obtain ⟨i, hi, ei, _⟩ := hL.2.2.1 (by decide) (by decide)
    exact Or.inr ⟨i, hi, ei⟩
  · have hL := LK_n h
    obtain ⟨i, hi, ei, _⟩ := hL.2.2.1 (by decide) (by decide)
    exact Or.inr ⟨i, hi, ei⟩
  · have hL := LK_n h
    obtain ⟨i, hi, ei, _⟩ := hL.2.2.1 (by decide) (by decide)
    exact Or.inr ⟨i, hi, ei⟩
  · have hL := LK_n h
    obtain ⟨i, hi, ei, _⟩ := hL.2.2.1 (by decide) (by decide)
    exact Or.inr ⟨i, hi, ei⟩
  · have hL := LK_n h
    obtain ⟨i, hi, ei, _⟩ := hL.2.2.1 (by decide) (by decide)
    exact Or.inr ⟨i, hi, ei⟩
  · have hL := LK_n h
    obtain ⟨i, hi, ei, _⟩ := hL.2.2.1 (by decide) (by decide)
    exact Or.inr ⟨i, hi, ei⟩
  · have hL := LK_n h
    obtain ⟨i, hi, ei, _⟩ := hL.2.2.1 (by decide) (by decide)
    exact Or.inr ⟨i, hi, ei⟩
  · have hL := LK_n h
    obtain ⟨i, hi, ei, _⟩ := hL.2.2.1 (by decide) (by decide)
    exact Or.inr ⟨i, hi, ei⟩
  · have hL := LK_n h
    obtain ⟨i, hi, ei, _⟩ := hL.2.2.1 (by decide) (by decide)
    exact Or.inr ⟨i, hi, ei⟩
  · have hL := LK_n h
    obtain ⟨i, hi, ei, _⟩ := hL.2.2.1 (by decide) (by decide)
    exact Or.inr ⟨i, hi, ei⟩
  · have hL := LK_n h
    obtain ⟨i, hi, ei, _⟩ := hL.2.2.1 (by decide) (by decide)
    exact Or.inr ⟨i, hi, ei⟩
  · have hL := LK_n h
    obtain ⟨i, hi, ei, _⟩ := hL.2.2.1 (by decide) (by decide)
    exact Or.inr ⟨i, hi, ei⟩
  · have hL := LK_n h
    obtain ⟨i, hi, ei, _⟩ := hL.2.2.1 (by decide) (by decide)
    exact Or.inr ⟨i, hi, ei⟩
  · have hL := LK_n h
    obtain ⟨i, hi, ei, _⟩ := hL.2.2.1 (by decide) (by decide)
    exact Or.inr ⟨i, hi, ei⟩
  · have hL := LK_n h
    obtain ⟨i, hi, ei, _⟩ := hL.2.2.1 (by decide) (by decide)
    exact Or.inr ⟨i, hi, ei⟩
  · have hL := LK_n h
    obtain ⟨i, hi, ei, _⟩ := hL.2.2.1 (by decide) (by decide)
    exact Or.inr ⟨i, hi, ei⟩
  · have hL := LK_n h
    obtain ⟨i, hi, ei, _⟩ := hL.2.2.1 (by decide) (by decide)
    exact Or.inr ⟨i, hi, ei⟩
  · have hL := LK_n h
    obtain ⟨i, hi, ei, _⟩ := hL.2.2.1 (by decide) (by decide)
    exact Or.inr ⟨i, hi, ei⟩
  · have hL := LK_n h
    obtain ⟨i, hi, ei, _⟩ := hL.2.2.1 (by decide) (by decide)
    exact Or.inr ⟨i, hi, ei⟩
  · have hL := LK_n h
    obtain ⟨i, hi, ei, _⟩ := hL.2.2.1 (by decide) (by decide)
    exact Or.inr ⟨i, hi, ei⟩
  · have hL := LK_n h
    obtain ⟨i, hi, ei, _⟩ := hL.2.2.1 (by decide) (by decide)
    exact Or.inr ⟨i, hi, ei⟩
  · have hL := LK_n h
    obtain ⟨i, hi, ei, _⟩ := hL.2.2.1 (by decide) (by decide)
    exact Or.inr ⟨i, hi, ei⟩
theorem N8 {d d' : HI} {n w κ : Nat} (h : NL d d' n w κ) (hk : 1 ≤ κ ∧ κ ≤ 26) : d' 8 n < 0 ∨ ∃ i, i < n ∧ d' 8 n = nI i := by
  have hκ := h.2.2.2.1
  obtain ⟨f, hf⟩ := NL_f h
  have hc : κ = 1 ∨ κ = 2 ∨ κ = 3 ∨ κ = 4 ∨ κ = 5 ∨ κ = 6 ∨ κ = 7 ∨ κ = 8 ∨ κ = 9 ∨ κ = 10 ∨ κ = 11 ∨ κ = 12 ∨ κ = 13 ∨ κ = 14 ∨ κ = 15 ∨ κ = 16 ∨ κ = 17 ∨ κ = 18 ∨ κ = 19 ∨ κ = 20 ∨ κ = 21 ∨ κ = 22 ∨ κ = 23 ∨ κ = 24 ∨ κ = 25 ∨ κ = 26 := by omega
  rcases hc with rfl | rfl | rfl | rfl | rfl | rfl | rfl | rfl | rfl | rfl | rfl | rfl | rfl | rfl | rfl | rfl | rfl | rfl | rfl | rfl | rfl | rfl | rfl | rfl | rfl | rfl
  · left
    rw [hf 8 (by omega) (by omega)]
    simp (decide := true) only [FN, FNr, FNs, fA, fB, fC, f2, f1, fI, ↓reduceIte]
  · left
    rw [hf 8 (by omega) (by omega)]
    simp (decide := true) only [FN, FNr, FNs, fA, fB, fC, f2, f1, fI, ↓reduceIte]
  · left
    rw [hf 8 (by omega) (by omega)]
    simp (decide := true) only [FN, FNr, FNs, fA, fB, fC, f2, f1, fI, ↓reduceIte]
  · left
    rw [hf 8 (by omega) (by omega)]
    simp (decide := true) only [FN, FNr, FNs, fA, fB, fC, f2, f1, fI, ↓reduceIte]
  · left
    rw [hf 8 (by omega) (by omega)]
    simp (decide := true) only [FN, FNr, FNs, fA, fB, fC, f2, f1, fI, ↓reduceIte]
  · left
    rw [hf 8 (by omega) (by omega)]
    simp (decide := true) only [FN, FNr, FNs, fA, fB, fC, f2, f1, fI, ↓reduceIte]
  · have hL := LK_n h
    obtain ⟨i, hi, ei, _⟩ := hL.2.2.2.2.1 (by decide)
    exact Or.inr ⟨i, hi, ei⟩
  · have hL := LK_n h
    obtain ⟨i, hi, ei, _⟩ := hL.2.2.2.2.1 (by decide)
    exact Or.inr ⟨i, hi, ei⟩
  · have hL := LK_n h
    obtain ⟨i, hi, ei, _⟩ := hL.2.2.2.2.1 (by decide)
    exact Or.inr ⟨i, hi, ei⟩
  · have hL := LK_n h
    obtain ⟨i, hi, ei, _⟩ := hL.2.2.2.2.1 (by decide)
    exact Or.inr ⟨i, hi, ei⟩
  · have hL := LK_n h
    obtain ⟨i, hi, ei, _⟩ := hL.2.2.2.2.1 (by decide)
    exact Or.inr ⟨i, hi, ei⟩
  · have hL := LK_n h
    obtain ⟨i, hi, ei, _⟩ := hL.2.2.2.2.1 (by decide)
    exact Or.inr ⟨i, hi, ei⟩
  · have hL := LK_n h
    obtain ⟨i, hi, ei, _⟩ := hL.2.2.2.2.1 (by decide)
    exact Or.inr ⟨i, hi, ei⟩
  · have hL := LK_n h
    obtain ⟨i, hi, ei, _⟩ := hL.2.2.2.2.1 (by decide)
    exact Or.inr ⟨i, hi, ei⟩
  · have hL := LK_n h
    obtain ⟨i, hi, ei, _⟩ := hL.2.2.2.2.1 (by decide)
    exact Or.inr ⟨i, hi, ei⟩
  · have hL := LK_n h
    obtain ⟨i, hi, ei, _⟩ := hL.2.2.2.2.1 (by decide)
    exact Or.inr ⟨i, hi, ei⟩
  · have hL := LK_n h
    obtain ⟨i, hi, ei, _⟩ := hL.2.2.2.2.1 (by decide)
    exact Or.inr ⟨i, hi, ei⟩
  · have hL := LK_n h
    obtain ⟨i, hi, ei, _⟩ := hL.2.2.2.2.1 (by decide)
    exact Or.inr ⟨i, hi, ei⟩
  · have hL := LK_n h
    obtain ⟨i, hi, ei, _⟩ := hL.2.2.2.2.1 (by decide)
    exact Or.inr ⟨i, hi, ei⟩
  · have hL := LK_n h
    obtain ⟨i, hi, ei, _⟩ := hL.2.2.2.2.1 (by decide)
    exact Or.inr ⟨i, hi, ei⟩
  · left
    rw [hf 8 (by omega) (by omega)]
    simp (decide := true) only [FN, FNr, FNs, fA, fB, fC, f2, f1, fI, ↓reduceIte]
  · left
    rw [hf 8 (by omega) (by omega)]
    simp (decide := true) only [FN, FNr, FNs, fA, fB, fC, f2, f1, fI, ↓reduceIte]
  · left
    rw [hf 8 (by omega) (by omega)]
    simp (decide := true) only [FN, FNr, FNs, fA, fB, fC, f2, f1, fI, ↓reduceIte]
  · have hL := LK_n h
    obtain ⟨i, hi, ei, _⟩ := hL.2.2.2.2.1 (by decide)
    exact Or.inr ⟨i, hi, ei⟩
  · have hL := LK_n h
    obtain ⟨i, hi, ei, _⟩ := hL.2.2.2.2.1 (by decide)
    exact Or.inr ⟨i, hi, ei⟩
  · have hL := LK_n h
    obtain ⟨i, hi, ei, _⟩ := hL.2.2.2.2.1 (by decide)
    exact Or.inr ⟨i, hi, ei⟩
theorem N9 {d d' : HI} {n w κ : Nat} (h : NL d d' n w κ) (hk : 1 ≤ κ ∧ κ ≤ 26) : d' 9 n < 0 ∨ ∃ i, i < n ∧ d' 9 n = nI i := by
  have hκ := h.2.2.2.1
  obtain ⟨f, hf⟩ := NL_f h
  have hc : κ = 1 ∨ κ = 2 ∨ κ = 3 ∨ κ = 4 ∨ κ = 5 ∨ κ = 6 ∨ κ = 7 ∨ κ = 8 ∨ κ = 9 ∨ κ = 10 ∨ κ = 11 ∨ κ = 12 ∨ κ = 13 ∨ κ = 14 ∨ κ = 15 ∨ κ = 16 ∨ κ = 17 ∨ κ = 18 ∨ κ = 19 ∨ κ = 20 ∨ κ = 21 ∨ κ = 22 ∨ κ = 23 ∨ κ = 24 ∨ κ = 25 ∨ κ = 26 := by omega
  rcases hc with rfl | rfl | rfl | rfl | rfl | rfl | rfl | rfl | rfl | rfl | rfl | rfl | rfl | rfl | rfl | rfl | rfl | rfl | rfl | rfl | rfl | rfl | rfl | rfl | rfl | rfl
  · left
    rw [hf 9 (by omega) (by omega)]
    simp (decide := true) only [FN, FNr, FNs, fA, fB, fC, f2, f1, fI, ↓reduceIte]
  · left
    rw [hf 9 (by omega) (by omega)]
    simp (decide := true) only [FN, FNr, FNs, fA, fB, fC, f2, f1, fI, ↓reduceIte]
  · left
    rw [hf 9 (by omega) (by omega)]
    simp (decide := true) only [FN, FNr, FNs, fA, fB, fC, f2, f1, fI, ↓reduceIte]
  · left
    rw [hf 9 (by omega) (by omega)]
    simp (decide := true) only [FN, FNr, FNs, fA, fB, fC, f2, f1, fI, ↓reduceIte]
  · left
    rw [hf 9 (by omega) (by omega)]
    simp (decide := true) only [FN, FNr, FNs, fA, fB, fC, f2, f1, fI, ↓reduceIte]
  · left
    rw [hf 9 (by omega) (by omega)]
    simp (decide := true) only [FN, FNr, FNs, fA, fB, fC, f2, f1, fI, ↓reduceIte]
  · left
    rw [hf 9 (by omega) (by omega)]
    simp (decide := true) only [FN, FNr, FNs, fA, fB, fC, f2, f1, fI, ↓reduceIte]
  · left
    rw [hf 9 (by omega) (by omega)]
    simp (decide := true) only [FN, FNr, FNs, fA, fB, fC, f2, f1, fI, ↓reduceIte]
  · left
    rw [hf 9 (by omega) (by omega)]
    simp (decide := true) only [FN, FNr, FNs, fA, fB, fC, f2, f1, fI, ↓reduceIte]
  · left
    rw [hf 9 (by omega) (by omega)]
    simp (decide := true) only [FN, FNr, FNs, fA, fB, fC, f2, f1, fI, ↓reduceIte]
  · left
    rw [hf 9 (by omega) (by omega)]
    simp (decide := true) only [FN, FNr, FNs, fA, fB, fC, f2, f1, fI, ↓reduceIte]
  · left
    rw [hf 9 (by omega) (by omega)]
    simp (decide := true) only [FN, FNr, FNs, fA, fB, fC, f2, f1, fI, ↓reduceIte]
  · left
    rw [hf 9 (by omega) (by omega)]
    simp (decide := true) only [FN, FNr, FNs, fA, fB, fC, f2, f1, fI, ↓reduceIte]
  · left
    rw [hf 9 (by omega) (by omega)]
    simp (decide := true) only [FN, FNr, FNs, fA, fB, fC, f2, f1, fI, ↓reduceIte]
  · left
    rw [hf 9 (by omega) (by omega)]
    simp (decide := true) only [FN, FNr, FNs, fA, fB, fC, f2, f1, fI, ↓reduceIte]
  · left
    rw [hf 9 (by omega) (by omega)]
    simp (decide := true) only [FN, FNr, FNs, fA, fB, fC, f2, f1, fI, ↓reduceIte]
  · left
    rw [hf 9 (by omega) (by omega)]
    simp (decide := true) only [FN, FNr, FNs, fA, fB, fC, f2, f1, fI, ↓reduceIte]
  · left
    rw [hf 9 (by omega) (by omega)]
    simp (decide := true) only [FN, FNr, FNs, fA, fB, fC, f2, f1, fI, ↓reduceIte]
  · left
    rw [hf 9 (by omega) (by omega)]
    simp (decide := true) only [FN, FNr, FNs, fA, fB, fC, f2, f1, fI, ↓reduceIte]
  · left
    rw [hf 9 (by omega) (by omega)]
    simp (decide := true) only [FN, FNr, FNs, fA, fB, fC, f2, f1, fI, ↓reduceIte]
  · left
    rw [hf 9 (by omega) (by omega)]
    simp (decide := true) only [FN, FNr, FNs, fA, fB, fC, f2, f1, fI, ↓reduceIte]
  · left
    rw [hf 9 (by omega) (by omega)]
    simp (decide := true) only [FN, FNr, FNs, fA, fB, fC, f2, f1, fI, ↓reduceIte]
  · left
    rw [hf 9 (by omega) (by omega)]
    simp (decide := true) only [FN, FNr, FNs, fA, fB, fC, f2, f1, fI, ↓reduceIte]
  · have hL := LK_n h
    obtain ⟨i, hi, ei, _⟩ := hL.2.2.2.2.2.1 (by decide)
    exact Or.inr ⟨i, hi, ei⟩
  · left
    rw [hf 9 (by omega) (by omega)]
    simp (decide := true) only [FN, FNr, FNs, fA, fB, fC, f2, f1, fI, ↓reduceIte]
  · have hL := LK_n h
    obtain ⟨i, hi, ei, _⟩ := hL.2.2.2.2.2.1 (by decide)
    exact Or.inr ⟨i, hi, ei⟩
theorem N0 {d d' : HI} {n w : Nat} (h : NL d d' n w 0) : (∃ x, 1 ≤ x ∧ x ≤ 3 ∧ d' 16 n = nI x ∧ i01 (d' 15 n)) ∧ ∀ y, s0c d n w y → y = nI (sc d' n) := by
  obtain ⟨f, hf⟩ := NL_f h
  have ha := (NL_a h).2.2
  have hW := h.2.1.1
  have hE := h.2.2.1
  have hn := hW.1
  have e16 := hf 16 (by omega) (by omega)
  have e15 := hf 15 (by omega) (by omega)
  have eC : CK d n w 0 = CKs d n w := by unfold CK; rw [if_pos rfl]
  rw [eC] at ha
  simp (decide := true) only [FN, ↓reduceIte] at e16 e15
  unfold CKs at ha
  unfold FNs at e16 e15
  by_cases q : LTR d w 2 = 1656889
  · rw [if_pos q] at ha e16 e15
    simp only [List.all_cons, List.all_nil, Bool.and_eq_true, id, and_true] at ha
    have p4 := of_decide_eq_true ha.2.2
    simp (decide := true) only [f1, ↓reduceIte] at e16 e15
    obtain ⟨s, hs, es, e5, ec, ev⟩ := swf hW w 4 p4.1
    rw [ec] at p4 e16
    have hr := sc_r hW hs e5
    have ew := sc_w hW hs e5
    have wb : wdt (sc d s) = sc d s := by unfold wdt; rw [if_pos p4.2]
    rw [wb] at ew
    refine ⟨⟨sc d s, hr.1, by omega, by rw [e16, ew], by rw [e15]; exact i01_1⟩, fun y hy => ?_⟩
    have es' : sc d' n = 4 + sc d s := by
      have u : sc d' n = if d' 15 n = 0 then (d' 16 n).toNatClampNeg else 4 + (d' 16 n).toNatClampNeg := rfl
      rw [u, e15, e16, ew, if_neg (by decide), nI_clamp (by omega)]
    rcases hy with ⟨hy, _⟩ | ⟨_, hy⟩
    · rw [hy, ec, es']
    · exact absurd q hy
  · rw [if_neg q] at ha e16 e15
    by_cases q2 : LTR d w 2 = 77224099
    · rw [if_pos q2] at ha
      simp only [List.all_cons, List.all_nil, Bool.and_eq_true, id, and_true] at ha
      have p3 := of_decide_eq_true ha.2
      simp (decide := true) only [f1, ↓reduceIte] at e16 e15
      rcases NU_cases d w 3 with ez | ⟨x, hx, ex, _⟩
      · rw [ez] at p3; exact absurd p3.1 (by decide)
      · rw [ex] at p3
        have a1 : 1 ≤ x := (nI_leI (a := 1) (by omega) (by omega)).mp p3.1
        have a3 : x ≤ 3 := (nI_leI (b := 3) (by omega) (by omega)).mp p3.2
        refine ⟨⟨x, a1, a3, by rw [e16, ex], by rw [e15]; exact i01_0⟩, fun y hy => ?_⟩
        have es' : sc d' n = x := by unfold sc; rw [e15, e16, ex, if_pos rfl, nI_clamp (by omega)]
        rcases hy with ⟨_, hy⟩ | ⟨hy, _⟩
        · exact absurd hy q
        · rw [hy, ex, es']
    · rw [if_neg q2] at ha
      simp at ha
/-- each ID is greater than the one before -/
def WInc (d : HI) (n : Nat) : Prop := ∀ a b, a < b → b < n → d 4 a < d 4 b
theorem wfn {d d' : HI} {n w κ : Nat} (h : NL d d' n w κ) (hn : n < 20) (hM : WInc d n) : WF d' (n + 1) ∧ WInc d' (n + 1) := by
  have hκ := h.2.2.2.1
  have hF := h.2.1
  have hE := h.2.2.1
  have hW := hF.1
  have hF' := WF_c hE hF
  have e5 := N5 h
  have e4 := N4 h
  have nk0 := nod_κ hκ
  -- the new ID
  have c0 := of_decide_eq_true (NL_a h).1
  have hid : ∃ i, 1 ≤ i ∧ i ≤ 99 ∧ NU d w 0 = nI i := by
    rcases NU_cases d w 0 with ez | ⟨i, hi, ei, _⟩
    · rw [ez] at c0; exact absurd c0.1 (by decide)
    · refine ⟨i, ?_, hi, ei⟩
      have := c0.1
      rw [ei] at this
      exact (nI_leI (a := 1) (by omega) (by omega)).mp this
  obtain ⟨i, i1, i9, ei⟩ := hid
  have inc : ∀ a, a < n → d' 4 a < d' 4 n := fun a ha => by
    have c0' := c0.2.resolve_left (by omega)
    rw [e4, hE 4 (by omega) (by omega) a ha]
    by_cases z : a = n - 1
    · rw [z]; exact c0'
    · have := hM a (n - 1) (by omega) (by omega)
      rw [Int32.lt_iff_toInt_lt] at this c0' ⊢
      omega
  have hM' : WInc d' (n + 1) := fun a b hab hb => by
    by_cases z : b = n
    · subst z; exact inc a hab
    · rw [hE 4 (by omega) (by omega) a (by omega), hE 4 (by omega) (by omega) b (by omega)]
      exact hM a b hab (by omega)
  refine ⟨⟨⟨by omega, fun k hk hno => ?_, fun k hk h0 => ?_⟩, fun k hk hno c h1 h2 => ?_, ⟨fun k hk => ?_, fun a b ha hb e => ?_⟩, fun k hk => ?_⟩, hM'⟩
  · by_cases z : k = n
    · subst z
      rw [e5] at hno
      have hr := nk0.mp hno
      obtain ⟨e6, p⟩ := N6 h hr
      obtain ⟨s, hs, es, e5s, ec, _⟩ := swf hW w 2 p
      exact ⟨s, by omega, by rw [e6, es], by rw [hE 5 (by omega) (by omega) s hs]; exact e5s⟩
    · obtain ⟨s, hs, r⟩ := hF'.1.2.1 k (by omega) hno
      exact ⟨s, by omega, r⟩
  · by_cases z : k = n
    · subst z
      rw [e5] at h0
      have k0 : κ = 0 := (nI_eq (b := 0) (by omega) (by omega)).mp h0
      subst k0
      exact (N0 h).1
    · exact hF'.1.2.2 k (by omega) h0
  · by_cases z : k = n
    · subst z
      rw [e5] at hno
      have hr := nk0.mp hno
      have hc : c = 7 ∨ c = 8 ∨ c = 9 := by omega
      rcases hc with rfl | rfl | rfl
      · exact N7 h hr
      · exact N8 h hr
      · exact N9 h hr
    · exact hF'.2.1 k (by omega) hno c h1 h2
  · by_cases z : k = n
    · subst z; exact ⟨i, i1, i9, by rw [e4, ei]⟩
    · exact hF'.2.2.1.1 k (by omega)
  · by_cases z : a = b
    · exact z
    · exfalso
      by_cases y : a < b
      · have := hM' a b y hb; rw [e] at this; exact absurd this (by simp)
      · have := hM' b a (by omega) ha; rw [e] at this; exact absurd this (by simp)
  · by_cases z : k = n
    · subst z; exact ⟨κ, hκ, e5, LK_n h⟩
    · exact hF'.2.2.2 k (by omega)
