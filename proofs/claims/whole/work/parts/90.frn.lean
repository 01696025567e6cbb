/-! a new node is fixed if its nodes are (printed by wip/whole/pure/frn.py) -/
noncomputable def kX (d : HI) (n w κ m : Nat) : Nat := (NW d n w ((nwl κ).getD m 0)).toNatClampNeg
noncomputable def sX (d : HI) (n w κ m : Nat) : Nat := ns d (NW d n w ((nwl κ).getD m 0))
noncomputable def tX (d : HI) (w κ m : Nat) : Bool := TN d w ((nwl κ).getD m 0)
theorem wn_3 {d d' : HI} {n w : Nat} (h : NL d d' n w 3) : ∀ m, m < (nwl 3).length → 0 ≤ NW d n w ((nwl 3).getD m 0) := by
  have ha := (NL_a h).2.2
  rw [CK_3] at ha
  simp only [List.all_cons, List.all_nil, Bool.and_eq_true, id, and_true] at ha
  intro m hm
  exact absurd hm (Nat.not_lt_zero m)
theorem wn_4 {d d' : HI} {n w : Nat} (h : NL d d' n w 4) : ∀ m, m < (nwl 4).length → 0 ≤ NW d n w ((nwl 4).getD m 0) := by
  have ha := (NL_a h).2.2
  rw [CK_4] at ha
  simp only [List.all_cons, List.all_nil, Bool.and_eq_true, id, and_true] at ha
  intro m hm
  obtain ⟨b0, b1⟩ := ha
  have hl : (nwl 4).length = 1 := by decide
  rw [hl] at hm
  have hc : m = 0 := by omega
  subst hc
  · exact (of_decide_eq_true b1).1
theorem wn_5 {d d' : HI} {n w : Nat} (h : NL d d' n w 5) : ∀ m, m < (nwl 5).length → 0 ≤ NW d n w ((nwl 5).getD m 0) := by
  have ha := (NL_a h).2.2
  rw [CK_5] at ha
  simp only [List.all_cons, List.all_nil, Bool.and_eq_true, id, and_true] at ha
  intro m hm
  obtain ⟨b0, b1⟩ := ha
  have hl : (nwl 5).length = 1 := by decide
  rw [hl] at hm
  have hc : m = 0 := by omega
  subst hc
  · exact (of_decide_eq_true b1).1
theorem wn_6 {d d' : HI} {n w : Nat} (h : NL d d' n w 6) : ∀ m, m < (nwl 6).length → 0 ≤ NW d n w ((nwl 6).getD m 0) := by
  have ha := (NL_a h).2.2
  rw [CK_6] at ha
  simp only [List.all_cons, List.all_nil, Bool.and_eq_true, id, and_true] at ha
  intro m hm
  obtain ⟨b0, b1⟩ := ha
  have hl : (nwl 6).length = 1 := by decide
  rw [hl] at hm
  have hc : m = 0 := by omega
  subst hc
  · exact (of_decide_eq_true b1).1
theorem wn_7 {d d' : HI} {n w : Nat} (h : NL d d' n w 7) : ∀ m, m < (nwl 7).length → 0 ≤ NW d n w ((nwl 7).getD m 0) := by
  have ha := (NL_a h).2.2
  rw [CK_7] at ha
  simp only [List.all_cons, List.all_nil, Bool.and_eq_true, id, and_true] at ha
  intro m hm
  obtain ⟨b0, b1, b2⟩ := ha
  have hl : (nwl 7).length = 2 := by decide
  rw [hl] at hm
  have hc : m = 0 ∨ m = 1 := by omega
  rcases hc with rfl | rfl
  · exact (of_decide_eq_true b1).1
  · exact (of_decide_eq_true b2).1
theorem wn_8 {d d' : HI} {n w : Nat} (h : NL d d' n w 8) : ∀ m, m < (nwl 8).length → 0 ≤ NW d n w ((nwl 8).getD m 0) := by
  have ha := (NL_a h).2.2
  rw [CK_8] at ha
  simp only [List.all_cons, List.all_nil, Bool.and_eq_true, id, and_true] at ha
  intro m hm
  obtain ⟨b0, b1, b2⟩ := ha
  have hl : (nwl 8).length = 2 := by decide
  rw [hl] at hm
  have hc : m = 0 ∨ m = 1 := by omega
  rcases hc with rfl | rfl
  · exact (of_decide_eq_true b1).1
  · exact (of_decide_eq_true b2).1
theorem wn_9 {d d' : HI} {n w : Nat} (h : NL d d' n w 9) : ∀ m, m < (nwl 9).length → 0 ≤ NW d n w ((nwl 9).getD m 0) := by
  have ha := (NL_a h).2.2
  rw [CK_9] at ha
  simp only [List.all_cons, List.all_nil, Bool.and_eq_true, id, and_true] at ha
  intro m hm
  obtain ⟨b0, b1, b2⟩ := ha
  have hl : (nwl 9).length = 2 := by decide
  rw [hl] at hm
  have hc : m = 0 ∨ m = 1 := by omega
  rcases hc with rfl | rfl
  · exact (of_decide_eq_true b1).1
  · exact (of_decide_eq_true b2).1
theorem wn_10 {d d' : HI} {n w : Nat} (h : NL d d' n w 10) : ∀ m, m < (nwl 10).length → 0 ≤ NW d n w ((nwl 10).getD m 0) := by
  have ha := (NL_a h).2.2
  rw [CK_10] at ha
  simp only [List.all_cons, List.all_nil, Bool.and_eq_true, id, and_true] at ha
  intro m hm
  obtain ⟨b0, b1, b2⟩ := ha
  have hl : (nwl 10).length = 2 := by decide
  rw [hl] at hm
  have hc : m = 0 ∨ m = 1 := by omega
  rcases hc with rfl | rfl
  · exact (of_decide_eq_true b1).1
  · exact (of_decide_eq_true b2).1
theorem wn_11 {d d' : HI} {n w : Nat} (h : NL d d' n w 11) : ∀ m, m < (nwl 11).length → 0 ≤ NW d n w ((nwl 11).getD m 0) := by
  have ha := (NL_a h).2.2
  rw [CK_11] at ha
  simp only [List.all_cons, List.all_nil, Bool.and_eq_true, id, and_true] at ha
  intro m hm
  obtain ⟨b0, b1, b2⟩ := ha
  have hl : (nwl 11).length = 2 := by decide
  rw [hl] at hm
  have hc : m = 0 ∨ m = 1 := by omega
  rcases hc with rfl | rfl
  · exact (of_decide_eq_true b1).1
  · exact (of_decide_eq_true b2).1
theorem wn_12 {d d' : HI} {n w : Nat} (h : NL d d' n w 12) : ∀ m, m < (nwl 12).length → 0 ≤ NW d n w ((nwl 12).getD m 0) := by
  have ha := (NL_a h).2.2
  rw [CK_12] at ha
  simp only [List.all_cons, List.all_nil, Bool.and_eq_true, id, and_true] at ha
  intro m hm
  obtain ⟨b0, b1, b2⟩ := ha
  have hl : (nwl 12).length = 2 := by decide
  rw [hl] at hm
  have hc : m = 0 ∨ m = 1 := by omega
  rcases hc with rfl | rfl
  · exact (of_decide_eq_true b1).1
  · exact (of_decide_eq_true b2).1
theorem wn_13 {d d' : HI} {n w : Nat} (h : NL d d' n w 13) : ∀ m, m < (nwl 13).length → 0 ≤ NW d n w ((nwl 13).getD m 0) := by
  have ha := (NL_a h).2.2
  rw [CK_13] at ha
  simp only [List.all_cons, List.all_nil, Bool.and_eq_true, id, and_true] at ha
  intro m hm
  obtain ⟨b0, b1, b2⟩ := ha
  have hl : (nwl 13).length = 2 := by decide
  rw [hl] at hm
  have hc : m = 0 ∨ m = 1 := by omega
  rcases hc with rfl | rfl
  · exact (of_decide_eq_true b1).1
  · exact (of_decide_eq_true b2).1
theorem wn_14 {d d' : HI} {n w : Nat} (h : NL d d' n w 14) : ∀ m, m < (nwl 14).length → 0 ≤ NW d n w ((nwl 14).getD m 0) := by
  have ha := (NL_a h).2.2
  rw [CK_14] at ha
  simp only [List.all_cons, List.all_nil, Bool.and_eq_true, id, and_true] at ha
  intro m hm
  obtain ⟨b0, b1, b2⟩ := ha
  have hl : (nwl 14).length = 2 := by decide
  rw [hl] at hm
  have hc : m = 0 ∨ m = 1 := by omega
  rcases hc with rfl | rfl
  · exact (of_decide_eq_true b1).1
  · exact (of_decide_eq_true b2).1
theorem wn_15 {d d' : HI} {n w : Nat} (h : NL d d' n w 15) : ∀ m, m < (nwl 15).length → 0 ≤ NW d n w ((nwl 15).getD m 0) := by
  have ha := (NL_a h).2.2
  rw [CK_15] at ha
  simp only [List.all_cons, List.all_nil, Bool.and_eq_true, id, and_true] at ha
  intro m hm
  obtain ⟨b0, b1, b2⟩ := ha
  have hl : (nwl 15).length = 2 := by decide
  rw [hl] at hm
  have hc : m = 0 ∨ m = 1 := by omega
  rcases hc with rfl | rfl
  · exact (of_decide_eq_true b1).1
  · exact (of_decide_eq_true b2).1
theorem wn_16 {d d' : HI} {n w : Nat} (h : NL d d' n w 16) : ∀ m, m < (nwl 16).length → 0 ≤ NW d n w ((nwl 16).getD m 0) := by
  have ha := (NL_a h).2.2
  rw [CK_16] at ha
  simp only [List.all_cons, List.all_nil, Bool.and_eq_true, id, and_true] at ha
  intro m hm
  obtain ⟨b0, b1, b2⟩ := ha
  have hl : (nwl 16).length = 2 := by decide
  rw [hl] at hm
  have hc : m = 0 ∨ m = 1 := by omega
  rcases hc with rfl | rfl
  · exact (of_decide_eq_true b1).1
  · exact (of_decide_eq_true b2).1
theorem wn_17 {d d' : HI} {n w : Nat} (h : NL d d' n w 17) : ∀ m, m < (nwl 17).length → 0 ≤ NW d n w ((nwl 17).getD m 0) := by
  have ha := (NL_a h).2.2
  rw [CK_17] at ha
  simp only [List.all_cons, List.all_nil, Bool.and_eq_true, id, and_true] at ha
  intro m hm
  obtain ⟨b0, b1, b2⟩ := ha
  have hl : (nwl 17).length = 2 := by decide
  rw [hl] at hm
  have hc : m = 0 ∨ m = 1 := by omega
  rcases hc with rfl | rfl
  · exact (of_decide_eq_true b1)
  · exact (of_decide_eq_true b2).1
theorem wn_18 {d d' : HI} {n w : Nat} (h : NL d d' n w 18) : ∀ m, m < (nwl 18).length → 0 ≤ NW d n w ((nwl 18).getD m 0) := by
  have ha := (NL_a h).2.2
  rw [CK_18] at ha
  simp only [List.all_cons, List.all_nil, Bool.and_eq_true, id, and_true] at ha
  intro m hm
  obtain ⟨b0, b1, b2⟩ := ha
  have hl : (nwl 18).length = 2 := by decide
  rw [hl] at hm
  have hc : m = 0 ∨ m = 1 := by omega
  rcases hc with rfl | rfl
  · exact (of_decide_eq_true b1).1
  · exact (of_decide_eq_true b2).1
theorem wn_19 {d d' : HI} {n w : Nat} (h : NL d d' n w 19) : ∀ m, m < (nwl 19).length → 0 ≤ NW d n w ((nwl 19).getD m 0) := by
  have ha := (NL_a h).2.2
  rw [CK_19] at ha
  simp only [List.all_cons, List.all_nil, Bool.and_eq_true, id, and_true] at ha
  intro m hm
  obtain ⟨b0, b1, b2⟩ := ha
  have hl : (nwl 19).length = 2 := by decide
  rw [hl] at hm
  have hc : m = 0 ∨ m = 1 := by omega
  rcases hc with rfl | rfl
  · exact (of_decide_eq_true b1).1
  · exact (of_decide_eq_true b2).1
theorem wn_20 {d d' : HI} {n w : Nat} (h : NL d d' n w 20) : ∀ m, m < (nwl 20).length → 0 ≤ NW d n w ((nwl 20).getD m 0) := by
  have ha := (NL_a h).2.2
  rw [CK_20] at ha
  simp only [List.all_cons, List.all_nil, Bool.and_eq_true, id, and_true] at ha
  intro m hm
  obtain ⟨b0, b1, b2⟩ := ha
  have hl : (nwl 20).length = 2 := by decide
  rw [hl] at hm
  have hc : m = 0 ∨ m = 1 := by omega
  rcases hc with rfl | rfl
  · exact (of_decide_eq_true b1).1
  · exact (of_decide_eq_true b2).1
theorem wn_21 {d d' : HI} {n w : Nat} (h : NL d d' n w 21) : ∀ m, m < (nwl 21).length → 0 ≤ NW d n w ((nwl 21).getD m 0) := by
  have ha := (NL_a h).2.2
  rw [CK_21] at ha
  simp only [List.all_cons, List.all_nil, Bool.and_eq_true, id, and_true] at ha
  intro m hm
  obtain ⟨b0, b1, b2, b3⟩ := ha
  have hl : (nwl 21).length = 1 := by decide
  rw [hl] at hm
  have hc : m = 0 := by omega
  subst hc
  · exact (of_decide_eq_true b1).1
theorem wn_22 {d d' : HI} {n w : Nat} (h : NL d d' n w 22) : ∀ m, m < (nwl 22).length → 0 ≤ NW d n w ((nwl 22).getD m 0) := by
  have ha := (NL_a h).2.2
  rw [CK_22] at ha
  simp only [List.all_cons, List.all_nil, Bool.and_eq_true, id, and_true] at ha
  intro m hm
  obtain ⟨b0, b1, b2⟩ := ha
  have hl : (nwl 22).length = 1 := by decide
  rw [hl] at hm
  have hc : m = 0 := by omega
  subst hc
  · exact (of_decide_eq_true b1).1
theorem wn_23 {d d' : HI} {n w : Nat} (h : NL d d' n w 23) : ∀ m, m < (nwl 23).length → 0 ≤ NW d n w ((nwl 23).getD m 0) := by
  have ha := (NL_a h).2.2
  rw [CK_23] at ha
  simp only [List.all_cons, List.all_nil, Bool.and_eq_true, id, and_true] at ha
  intro m hm
  obtain ⟨b0, b1, b2⟩ := ha
  have hl : (nwl 23).length = 1 := by decide
  rw [hl] at hm
  have hc : m = 0 := by omega
  subst hc
  · exact (of_decide_eq_true b1).1
theorem wn_24 {d d' : HI} {n w : Nat} (h : NL d d' n w 24) : ∀ m, m < (nwl 24).length → 0 ≤ NW d n w ((nwl 24).getD m 0) := by
  have ha := (NL_a h).2.2
  rw [CK_24] at ha
  simp only [List.all_cons, List.all_nil, Bool.and_eq_true, id, and_true] at ha
  intro m hm
  obtain ⟨b0, b1, b2, b3⟩ := ha
  have hl : (nwl 24).length = 3 := by decide
  rw [hl] at hm
  have hc : m = 0 ∨ m = 1 ∨ m = 2 := by omega
  rcases hc with rfl | rfl | rfl
  · exact (of_decide_eq_true b1).1
  · exact (of_decide_eq_true b2).1
  · exact (of_decide_eq_true b3).1
theorem wn_25 {d d' : HI} {n w : Nat} (h : NL d d' n w 25) : ∀ m, m < (nwl 25).length → 0 ≤ NW d n w ((nwl 25).getD m 0) := by
  have ha := (NL_a h).2.2
  rw [CK_25] at ha
  simp only [List.all_cons, List.all_nil, Bool.and_eq_true, id, and_true] at ha
  intro m hm
  obtain ⟨b0, b1, b2⟩ := ha
  have hl : (nwl 25).length = 2 := by decide
  rw [hl] at hm
  have hc : m = 0 ∨ m = 1 := by omega
  rcases hc with rfl | rfl
  · exact (of_decide_eq_true b1).1
  · exact (of_decide_eq_true b2).1
theorem wn_26 {d d' : HI} {n w : Nat} (h : NL d d' n w 26) : ∀ m, m < (nwl 26).length → 0 ≤ NW d n w ((nwl 26).getD m 0) := by
  have ha := (NL_a h).2.2
  rw [CK_26] at ha
  simp only [List.all_cons, List.all_nil, Bool.and_eq_true, id, and_true] at ha
  intro m hm
  obtain ⟨b0, b1, b2, b3⟩ := ha
  have hl : (nwl 26).length = 3 := by decide
  rw [hl] at hm
  have hc : m = 0 ∨ m = 1 ∨ m = 2 := by omega
  rcases hc with rfl | rfl | rfl
  · exact (of_decide_eq_true b1).1
  · exact (of_decide_eq_true b2).1
  · exact (of_decide_eq_true b3).1
theorem wn_27 {d d' : HI} {n w : Nat} (h : NL d d' n w 27) : ∀ m, m < (nwl 27).length → 0 ≤ NW d n w ((nwl 27).getD m 0) := by
  have ha := (NL_a h).2.2
  rw [CK_27] at ha
  simp only [List.all_cons, List.all_nil, Bool.and_eq_true, id, and_true] at ha
  intro m hm
  obtain ⟨b0, b1, b2⟩ := ha
  have hl : (nwl 27).length = 2 := by decide
  rw [hl] at hm
  have hc : m = 0 ∨ m = 1 := by omega
  rcases hc with rfl | rfl
  · exact (of_decide_eq_true b1).1
  · exact (of_decide_eq_true b2).1
theorem wn_28 {d d' : HI} {n w : Nat} (h : NL d d' n w 28) : ∀ m, m < (nwl 28).length → 0 ≤ NW d n w ((nwl 28).getD m 0) := by
  have ha := (NL_a h).2.2
  rw [CK_28] at ha
  simp only [List.all_cons, List.all_nil, Bool.and_eq_true, id, and_true] at ha
  intro m hm
  obtain ⟨b0, b1, b2⟩ := ha
  have hl : (nwl 28).length = 2 := by decide
  rw [hl] at hm
  have hc : m = 0 ∨ m = 1 := by omega
  rcases hc with rfl | rfl
  · exact (of_decide_eq_true b1).1
  · exact (of_decide_eq_true b2).1
theorem wn_29 {d d' : HI} {n w : Nat} (h : NL d d' n w 29) : ∀ m, m < (nwl 29).length → 0 ≤ NW d n w ((nwl 29).getD m 0) := by
  have ha := (NL_a h).2.2
  rw [CK_29] at ha
  simp only [List.all_cons, List.all_nil, Bool.and_eq_true, id, and_true] at ha
  intro m hm
  have hl : (nwl 29).length = 1 := by decide
  rw [hl] at hm
  have hc : m = 0 := by omega
  subst hc
  · exact (of_decide_eq_true ha).1
theorem wn_30 {d d' : HI} {n w : Nat} (h : NL d d' n w 30) : ∀ m, m < (nwl 30).length → 0 ≤ NW d n w ((nwl 30).getD m 0) := by
  have ha := (NL_a h).2.2
  rw [CK_30] at ha
  simp only [List.all_cons, List.all_nil, Bool.and_eq_true, id, and_true] at ha
  intro m hm
  have hl : (nwl 30).length = 1 := by decide
  rw [hl] at hm
  have hc : m = 0 := by omega
  subst hc
  · exact (of_decide_eq_true ha).1
theorem fr_3 {d d' : HI} {n w : Nat} (h : NL d d' n w 3) (hn : n < 20) (hA : WA d' (n + 1)) : FR d' n = (false) := by
  obtain ⟨f, hf⟩ := NL_f h
  have wn := wn_3 h
  have e5 : d' 5 n = nI 3 := by
    rw [hf 5 (by omega) (by omega)]
    simp (decide := true) only [FN, FNr, FNs, fA, fB, fC, f2, f1, fI, ↓reduceIte]
  have e7 : d' 7 n = -1 := by
    rw [hf 7 (by omega) (by omega)]
    simp (decide := true) only [FN, FNr, FNs, fA, fB, fC, f2, f1, fI, ↓reduceIte]
  have e8 : d' 8 n = -1 := by
    rw [hf 8 (by omega) (by omega)]
    simp (decide := true) only [FN, FNr, FNs, fA, fB, fC, f2, f1, fI, ↓reduceIte]
  have e9 : d' 9 n = -1 := by
    rw [hf 9 (by omega) (by omega)]
    simp (decide := true) only [FN, FNr, FNs, fA, fB, fC, f2, f1, fI, ↓reduceIte]
  rw [FR_eq (show n + 1 ≤ 20 by omega) hA (show n < n + 1 by omega)]
  have k1 : ¬ (nI 3 : Int32) = 1 := by decide
  have k2 : ¬ (nI 3 : Int32) = 2 := by decide
  unfold frs
  rw [e5, e7, e8, e9, decide_eq_false k1, decide_eq_false k2, decide_eq_false (show ¬ (¬ (nI 3 : Int32) = 0 ∧ ¬ (27 : Int32) ≤ nI 3 ∧ ¬ (nI 3 : Int32) = 3) by decide)]
  simp only [m1_lt0, not_true, decide_false, decide_true, Bool.false_and, Bool.true_and, Bool.false_or, Bool.or_false, not_false_eq_true]
theorem fr_4 {d d' : HI} {n w : Nat} (h : NL d d' n w 4) (hn : n < 20) (hA : WA d' (n + 1)) : FR d' n = (FR d' (NW d n w 3).toNatClampNeg) := by
  obtain ⟨f, hf⟩ := NL_f h
  have wn := wn_4 h
  have e5 : d' 5 n = nI 4 := by
    rw [hf 5 (by omega) (by omega)]
    simp (decide := true) only [FN, FNr, FNs, fA, fB, fC, f2, f1, fI, ↓reduceIte]
  have e7 : d' 7 n = NW d n w 3 := by
    rw [hf 7 (by omega) (by omega)]
    simp (decide := true) only [FN, FNr, FNs, fA, fB, fC, f2, f1, fI, ↓reduceIte]
  have e8 : d' 8 n = -1 := by
    rw [hf 8 (by omega) (by omega)]
    simp (decide := true) only [FN, FNr, FNs, fA, fB, fC, f2, f1, fI, ↓reduceIte]
  have e9 : d' 9 n = -1 := by
    rw [hf 9 (by omega) (by omega)]
    simp (decide := true) only [FN, FNr, FNs, fA, fB, fC, f2, f1, fI, ↓reduceIte]
  rw [FR_eq (show n + 1 ≤ 20 by omega) hA (show n < n + 1 by omega)]
  have q3 : ¬ NW d n w 3 < 0 := by rw [i32_nlt]; exact wn 0 (by decide)
  have k1 : ¬ (nI 4 : Int32) = 1 := by decide
  have k2 : ¬ (nI 4 : Int32) = 2 := by decide
  have k3 : (¬ (nI 4 : Int32) = 0 ∧ ¬ (27 : Int32) ≤ nI 4 ∧ ¬ (nI 4 : Int32) = 3) := by decide
  unfold frs
  rw [e5, e7, e8, e9, decide_eq_false k1, decide_eq_false k2, decide_eq_true k3]
  simp only [q3, m1_lt0, not_true, decide_false, decide_true, Bool.false_and, Bool.true_and, Bool.false_or, Bool.or_false, not_false_eq_true]
theorem fr_5 {d d' : HI} {n w : Nat} (h : NL d d' n w 5) (hn : n < 20) (hA : WA d' (n + 1)) : FR d' n = (FR d' (NW d n w 3).toNatClampNeg) := by
  obtain ⟨f, hf⟩ := NL_f h
  have wn := wn_5 h
  have e5 : d' 5 n = nI 5 := by
    rw [hf 5 (by omega) (by omega)]
    simp (decide := true) only [FN, FNr, FNs, fA, fB, fC, f2, f1, fI, ↓reduceIte]
  have e7 : d' 7 n = NW d n w 3 := by
    rw [hf 7 (by omega) (by omega)]
    simp (decide := true) only [FN, FNr, FNs, fA, fB, fC, f2, f1, fI, ↓reduceIte]
  have e8 : d' 8 n = -1 := by
    rw [hf 8 (by omega) (by omega)]
    simp (decide := true) only [FN, FNr, FNs, fA, fB, fC, f2, f1, fI, ↓reduceIte]
  have e9 : d' 9 n = -1 := by
    rw [hf 9 (by omega) (by omega)]
    simp (decide := true) only [FN, FNr, FNs, fA, fB, fC, f2, f1, fI, ↓reduceIte]
  rw [FR_eq (show n + 1 ≤ 20 by omega) hA (show n < n + 1 by omega)]
  have q3 : ¬ NW d n w 3 < 0 := by rw [i32_nlt]; exact wn 0 (by decide)
  have k1 : ¬ (nI 5 : Int32) = 1 := by decide
  have k2 : ¬ (nI 5 : Int32) = 2 := by decide
  have k3 : (¬ (nI 5 : Int32) = 0 ∧ ¬ (27 : Int32) ≤ nI 5 ∧ ¬ (nI 5 : Int32) = 3) := by decide
  unfold frs
  rw [e5, e7, e8, e9, decide_eq_false k1, decide_eq_false k2, decide_eq_true k3]
  simp only [q3, m1_lt0, not_true, decide_false, decide_true, Bool.false_and, Bool.true_and, Bool.false_or, Bool.or_false, not_false_eq_true]
theorem fr_6 {d d' : HI} {n w : Nat} (h : NL d d' n w 6) (hn : n < 20) (hA : WA d' (n + 1)) : FR d' n = (FR d' (NW d n w 3).toNatClampNeg) := by
  obtain ⟨f, hf⟩ := NL_f h
  have wn := wn_6 h
  have e5 : d' 5 n = nI 6 := by
    rw [hf 5 (by omega) (by omega)]
    simp (decide := true) only [FN, FNr, FNs, fA, fB, fC, f2, f1, fI, ↓reduceIte]
  have e7 : d' 7 n = NW d n w 3 := by
    rw [hf 7 (by omega) (by omega)]
    simp (decide := true) only [FN, FNr, FNs, fA, fB, fC, f2, f1, fI, ↓reduceIte]
  have e8 : d' 8 n = -1 := by
    rw [hf 8 (by omega) (by omega)]
    simp (decide := true) only [FN, FNr, FNs, fA, fB, fC, f2, f1, fI, ↓reduceIte]
  have e9 : d' 9 n = -1 := by
    rw [hf 9 (by omega) (by omega)]
    simp (decide := true) only [FN, FNr, FNs, fA, fB, fC, f2, f1, fI, ↓reduceIte]
  rw [FR_eq (show n + 1 ≤ 20 by omega) hA (show n < n + 1 by omega)]
  have q3 : ¬ NW d n w 3 < 0 := by rw [i32_nlt]; exact wn 0 (by decide)
  have k1 : ¬ (nI 6 : Int32) = 1 := by decide
  have k2 : ¬ (nI 6 : Int32) = 2 := by decide
  have k3 : (¬ (nI 6 : Int32) = 0 ∧ ¬ (27 : Int32) ≤ nI 6 ∧ ¬ (nI 6 : Int32) = 3) := by decide
  unfold frs
  rw [e5, e7, e8, e9, decide_eq_false k1, decide_eq_false k2, decide_eq_true k3]
  simp only [q3, m1_lt0, not_true, decide_false, decide_true, Bool.false_and, Bool.true_and, Bool.false_or, Bool.or_false, not_false_eq_true]
theorem fr_7 {d d' : HI} {n w : Nat} (h : NL d d' n w 7) (hn : n < 20) (hA : WA d' (n + 1)) : FR d' n = (FR d' (NW d n w 3).toNatClampNeg || FR d' (NW d n w 4).toNatClampNeg) := by
  obtain ⟨f, hf⟩ := NL_f h
  have wn := wn_7 h
  have e5 : d' 5 n = nI 7 := by
    rw [hf 5 (by omega) (by omega)]
    simp (decide := true) only [FN, FNr, FNs, fA, fB, fC, f2, f1, fI, ↓reduceIte]
  have e7 : d' 7 n = NW d n w 3 := by
    rw [hf 7 (by omega) (by omega)]
    simp (decide := true) only [FN, FNr, FNs, fA, fB, fC, f2, f1, fI, ↓reduceIte]
  have e8 : d' 8 n = NW d n w 4 := by
    rw [hf 8 (by omega) (by omega)]
    simp (decide := true) only [FN, FNr, FNs, fA, fB, fC, f2, f1, fI, ↓reduceIte]
  have e9 : d' 9 n = -1 := by
    rw [hf 9 (by omega) (by omega)]
    simp (decide := true) only [FN, FNr, FNs, fA, fB, fC, f2, f1, fI, ↓reduceIte]
  rw [FR_eq (show n + 1 ≤ 20 by omega) hA (show n < n + 1 by omega)]
  have q3 : ¬ NW d n w 3 < 0 := by rw [i32_nlt]; exact wn 0 (by decide)
  have q4 : ¬ NW d n w 4 < 0 := by rw [i32_nlt]; exact wn 1 (by decide)
  have k1 : ¬ (nI 7 : Int32) = 1 := by decide
  have k2 : ¬ (nI 7 : Int32) = 2 := by decide
  have k3 : (¬ (nI 7 : Int32) = 0 ∧ ¬ (27 : Int32) ≤ nI 7 ∧ ¬ (nI 7 : Int32) = 3) := by decide
  unfold frs
  rw [e5, e7, e8, e9, decide_eq_false k1, decide_eq_false k2, decide_eq_true k3]
  simp only [q3, q4, m1_lt0, not_true, decide_false, decide_true, Bool.false_and, Bool.true_and, Bool.false_or, Bool.or_false, not_false_eq_true]
theorem fr_8 {d d' : HI} {n w : Nat} (h : NL d d' n w 8) (hn : n < 20) (hA : WA d' (n + 1)) : FR d' n = (FR d' (NW d n w 3).toNatClampNeg || FR d' (NW d n w 4).toNatClampNeg) := by
  obtain ⟨f, hf⟩ := NL_f h
  have wn := wn_8 h
  have e5 : d' 5 n = nI 8 := by
    rw [hf 5 (by omega) (by omega)]
    simp (decide := true) only [FN, FNr, FNs, fA, fB, fC, f2, f1, fI, ↓reduceIte]
  have e7 : d' 7 n = NW d n w 3 := by
    rw [hf 7 (by omega) (by omega)]
    simp (decide := true) only [FN, FNr, FNs, fA, fB, fC, f2, f1, fI, ↓reduceIte]
  have e8 : d' 8 n = NW d n w 4 := by
    rw [hf 8 (by omega) (by omega)]
    simp (decide := true) only [FN, FNr, FNs, fA, fB, fC, f2, f1, fI, ↓reduceIte]
  have e9 : d' 9 n = -1 := by
    rw [hf 9 (by omega) (by omega)]
    simp (decide := true) only [FN, FNr, FNs, fA, fB, fC, f2, f1, fI, ↓reduceIte]
  rw [FR_eq (show n + 1 ≤ 20 by omega) hA (show n < n + 1 by omega)]
  have q3 : ¬ NW d n w 3 < 0 := by rw [i32_nlt]; exact wn 0 (by decide)
  have q4 : ¬ NW d n w 4 < 0 := by rw [i32_nlt]; exact wn 1 (by decide)
  have k1 : ¬ (nI 8 : Int32) = 1 := by decide
  have k2 : ¬ (nI 8 : Int32) = 2 := by decide
  have k3 : (¬ (nI 8 : Int32) = 0 ∧ ¬ (27 : Int32) ≤ nI 8 ∧ ¬ (nI 8 : Int32) = 3) := by decide
  unfold frs
  rw [e5, e7, e8, e9, decide_eq_false k1, decide_eq_false k2, decide_eq_true k3]
  simp only [q3, q4, m1_lt0, not_true, decide_false, decide_true, Bool.false_and, Bool.true_and, Bool.false_or, Bool.or_false, not_false_eq_true]
theorem fr_9 {d d' : HI} {n w : Nat} (h : NL d d' n w 9) (hn : n < 20) (hA : WA d' (n + 1)) : FR d' n = (FR d' (NW d n w 3).toNatClampNeg || FR d' (NW d n w 4).toNatClampNeg) := by
  obtain ⟨f, hf⟩ := NL_f h
  have wn := wn_9 h
  have e5 : d' 5 n = nI 9 := by
    rw [hf 5 (by omega) (by omega)]
    simp (decide := true) only [FN, FNr, FNs, fA, fB, fC, f2, f1, fI, ↓reduceIte]
  have e7 : d' 7 n = NW d n w 3 := by
    rw [hf 7 (by omega) (by omega)]
    simp (decide := true) only [FN, FNr, FNs, fA, fB, fC, f2, f1, fI, ↓reduceIte]
  have e8 : d' 8 n = NW d n w 4 := by
    rw [hf 8 (by omega) (by omega)]
    simp (decide := true) only [FN, FNr, FNs, fA, fB, fC, f2, f1, fI, ↓reduceIte]
  have e9 : d' 9 n = -1 := by
    rw [hf 9 (by omega) (by omega)]
    simp (decide := true) only [FN, FNr, FNs, fA, fB, fC, f2, f1, fI, ↓reduceIte]
  rw [FR_eq (show n + 1 ≤ 20 by omega) hA (show n < n + 1 by omega)]
  have q3 : ¬ NW d n w 3 < 0 := by rw [i32_nlt]; exact wn 0 (by decide)
  have q4 : ¬ NW d n w 4 < 0 := by rw [i32_nlt]; exact wn 1 (by decide)
  have k1 : ¬ (nI 9 : Int32) = 1 := by decide
  have k2 : ¬ (nI 9 : Int32) = 2 := by decide
  have k3 : (¬ (nI 9 : Int32) = 0 ∧ ¬ (27 : Int32) ≤ nI 9 ∧ ¬ (nI 9 : Int32) = 3) := by decide
  unfold frs
  rw [e5, e7, e8, e9, decide_eq_false k1, decide_eq_false k2, decide_eq_true k3]
  simp only [q3, q4, m1_lt0, not_true, decide_false, decide_true, Bool.false_and, Bool.true_and, Bool.false_or, Bool.or_false, not_false_eq_true]
theorem fr_10 {d d' : HI} {n w : Nat} (h : NL d d' n w 10) (hn : n < 20) (hA : WA d' (n + 1)) : FR d' n = (FR d' (NW d n w 3).toNatClampNeg || FR d' (NW d n w 4).toNatClampNeg) := by
  obtain ⟨f, hf⟩ := NL_f h
  have wn := wn_10 h
  have e5 : d' 5 n = nI 10 := by
    rw [hf 5 (by omega) (by omega)]
    simp (decide := true) only [FN, FNr, FNs, fA, fB, fC, f2, f1, fI, ↓reduceIte]
  have e7 : d' 7 n = NW d n w 3 := by
    rw [hf 7 (by omega) (by omega)]
    simp (decide := true) only [FN, FNr, FNs, fA, fB, fC, f2, f1, fI, ↓reduceIte]
  have e8 : d' 8 n = NW d n w 4 := by
    rw [hf 8 (by omega) (by omega)]
    simp (decide := true) only [FN, FNr, FNs, fA, fB, fC, f2, f1, fI, ↓reduceIte]
  have e9 : d' 9 n = -1 := by
    rw [hf 9 (by omega) (by omega)]
    simp (decide := true) only [FN, FNr, FNs, fA, fB, fC, f2, f1, fI, ↓reduceIte]
  rw [FR_eq (show n + 1 ≤ 20 by omega) hA (show n < n + 1 by omega)]
  have q3 : ¬ NW d n w 3 < 0 := by rw [i32_nlt]; exact wn 0 (by decide)
  have q4 : ¬ NW d n w 4 < 0 := by rw [i32_nlt]; exact wn 1 (by decide)
  have k1 : ¬ (nI 10 : Int32) = 1 := by decide
  have k2 : ¬ (nI 10 : Int32) = 2 := by decide
  have k3 : (¬ (nI 10 : Int32) = 0 ∧ ¬ (27 : Int32) ≤ nI 10 ∧ ¬ (nI 10 : Int32) = 3) := by decide
  unfold frs
  rw [e5, e7, e8, e9, decide_eq_false k1, decide_eq_false k2, decide_eq_true k3]
  simp only [q3, q4, m1_lt0, not_true, decide_false, decide_true, Bool.false_and, Bool.true_and, Bool.false_or, Bool.or_false, not_false_eq_true]
theorem fr_11 {d d' : HI} {n w : Nat} (h : NL d d' n w 11) (hn : n < 20) (hA : WA d' (n + 1)) : FR d' n = (FR d' (NW d n w 3).toNatClampNeg || FR d' (NW d n w 4).toNatClampNeg) := by
  obtain ⟨f, hf⟩ := NL_f h
  have wn := wn_11 h
  have e5 : d' 5 n = nI 11 := by
    rw [hf 5 (by omega) (by omega)]
    simp (decide := true) only [FN, FNr, FNs, fA, fB, fC, f2, f1, fI, ↓reduceIte]
  have e7 : d' 7 n = NW d n w 3 := by
    rw [hf 7 (by omega) (by omega)]
    simp (decide := true) only [FN, FNr, FNs, fA, fB, fC, f2, f1, fI, ↓reduceIte]
  have e8 : d' 8 n = NW d n w 4 := by
    rw [hf 8 (by omega) (by omega)]
    simp (decide := true) only [FN, FNr, FNs, fA, fB, fC, f2, f1, fI, ↓reduceIte]
  have e9 : d' 9 n = -1 := by
    rw [hf 9 (by omega) (by omega)]
    simp (decide := true) only [FN, FNr, FNs, fA, fB, fC, f2, f1, fI, ↓reduceIte]
  rw [FR_eq (show n + 1 ≤ 20 by omega) hA (show n < n + 1 by omega)]
  have q3 : ¬ NW d n w 3 < 0 := by rw [i32_nlt]; exact wn 0 (by decide)
  have q4 : ¬ NW d n w 4 < 0 := by rw [i32_nlt]; exact wn 1 (by decide)
  have k1 : ¬ (nI 11 : Int32) = 1 := by decide
  have k2 : ¬ (nI 11 : Int32) = 2 := by decide
  have k3 : (¬ (nI 11 : Int32) = 0 ∧ ¬ (27 : Int32) ≤ nI 11 ∧ ¬ (nI 11 : Int32) = 3) := by decide
  unfold frs
  rw [e5, e7, e8, e9, decide_eq_false k1, decide_eq_false k2, decide_eq_true k3]
  simp only [q3, q4, m1_lt0, not_true, decide_false, decide_true, Bool.false_and, Bool.true_and, Bool.false_or, Bool.or_false, not_false_eq_true]
theorem fr_12 {d d' : HI} {n w : Nat} (h : NL d d' n w 12) (hn : n < 20) (hA : WA d' (n + 1)) : FR d' n = (FR d' (NW d n w 3).toNatClampNeg || FR d' (NW d n w 4).toNatClampNeg) := by
  obtain ⟨f, hf⟩ := NL_f h
  have wn := wn_12 h
  have e5 : d' 5 n = nI 12 := by
    rw [hf 5 (by omega) (by omega)]
    simp (decide := true) only [FN, FNr, FNs, fA, fB, fC, f2, f1, fI, ↓reduceIte]
  have e7 : d' 7 n = NW d n w 3 := by
    rw [hf 7 (by omega) (by omega)]
    simp (decide := true) only [FN, FNr, FNs, fA, fB, fC, f2, f1, fI, ↓reduceIte]
  have e8 : d' 8 n = NW d n w 4 := by
    rw [hf 8 (by omega) (by omega)]
    simp (decide := true) only [FN, FNr, FNs, fA, fB, fC, f2, f1, fI, ↓reduceIte]
  have e9 : d' 9 n = -1 := by
    rw [hf 9 (by omega) (by omega)]
    simp (decide := true) only [FN, FNr, FNs, fA, fB, fC, f2, f1, fI, ↓reduceIte]
  rw [FR_eq (show n + 1 ≤ 20 by omega) hA (show n < n + 1 by omega)]
  have q3 : ¬ NW d n w 3 < 0 := by rw [i32_nlt]; exact wn 0 (by decide)
  have q4 : ¬ NW d n w 4 < 0 := by rw [i32_nlt]; exact wn 1 (by decide)
  have k1 : ¬ (nI 12 : Int32) = 1 := by decide
  have k2 : ¬ (nI 12 : Int32) = 2 := by decide
  have k3 : (¬ (nI 12 : Int32) = 0 ∧ ¬ (27 : Int32) ≤ nI 12 ∧ ¬ (nI 12 : Int32) = 3) := by decide
  unfold frs
  rw [e5, e7, e8, e9, decide_eq_false k1, decide_eq_false k2, decide_eq_true k3]
  simp only [q3, q4, m1_lt0, not_true, decide_false, decide_true, Bool.false_and, Bool.true_and, Bool.false_or, Bool.or_false, not_false_eq_true]
theorem fr_13 {d d' : HI} {n w : Nat} (h : NL d d' n w 13) (hn : n < 20) (hA : WA d' (n + 1)) : FR d' n = (FR d' (NW d n w 3).toNatClampNeg || FR d' (NW d n w 4).toNatClampNeg) := by
  obtain ⟨f, hf⟩ := NL_f h
  have wn := wn_13 h
  have e5 : d' 5 n = nI 13 := by
    rw [hf 5 (by omega) (by omega)]
    simp (decide := true) only [FN, FNr, FNs, fA, fB, fC, f2, f1, fI, ↓reduceIte]
  have e7 : d' 7 n = NW d n w 3 := by
    rw [hf 7 (by omega) (by omega)]
    simp (decide := true) only [FN, FNr, FNs, fA, fB, fC, f2, f1, fI, ↓reduceIte]
  have e8 : d' 8 n = NW d n w 4 := by
    rw [hf 8 (by omega) (by omega)]
    simp (decide := true) only [FN, FNr, FNs, fA, fB, fC, f2, f1, fI, ↓reduceIte]
  have e9 : d' 9 n = -1 := by
    rw [hf 9 (by omega) (by omega)]
    simp (decide := true) only [FN, FNr, FNs, fA, fB, fC, f2, f1, fI, ↓reduceIte]
  rw [FR_eq (show n + 1 ≤ 20 by omega) hA (show n < n + 1 by omega)]
  have q3 : ¬ NW d n w 3 < 0 := by rw [i32_nlt]; exact wn 0 (by decide)
  have q4 : ¬ NW d n w 4 < 0 := by rw [i32_nlt]; exact wn 1 (by decide)
  have k1 : ¬ (nI 13 : Int32) = 1 := by decide
  have k2 : ¬ (nI 13 : Int32) = 2 := by decide
  have k3 : (¬ (nI 13 : Int32) = 0 ∧ ¬ (27 : Int32) ≤ nI 13 ∧ ¬ (nI 13 : Int32) = 3) := by decide
  unfold frs
  rw [e5, e7, e8, e9, decide_eq_false k1, decide_eq_false k2, decide_eq_true k3]
  simp only [q3, q4, m1_lt0, not_true, decide_false, decide_true, Bool.false_and, Bool.true_and, Bool.false_or, Bool.or_false, not_false_eq_true]
theorem fr_14 {d d' : HI} {n w : Nat} (h : NL d d' n w 14) (hn : n < 20) (hA : WA d' (n + 1)) : FR d' n = (FR d' (NW d n w 3).toNatClampNeg || FR d' (NW d n w 4).toNatClampNeg) := by
  obtain ⟨f, hf⟩ := NL_f h
  have wn := wn_14 h
  have e5 : d' 5 n = nI 14 := by
    rw [hf 5 (by omega) (by omega)]
    simp (decide := true) only [FN, FNr, FNs, fA, fB, fC, f2, f1, fI, ↓reduceIte]
  have e7 : d' 7 n = NW d n w 3 := by
    rw [hf 7 (by omega) (by omega)]
    simp (decide := true) only [FN, FNr, FNs, fA, fB, fC, f2, f1, fI, ↓reduceIte]
  have e8 : d' 8 n = NW d n w 4 := by
    rw [hf 8 (by omega) (by omega)]
    simp (decide := true) only [FN, FNr, FNs, fA, fB, fC, f2, f1, fI, ↓reduceIte]
  have e9 : d' 9 n = -1 := by
    rw [hf 9 (by omega) (by omega)]
    simp (decide := true) only [FN, FNr, FNs, fA, fB, fC, f2, f1, fI, ↓reduceIte]
  rw [FR_eq (show n + 1 ≤ 20 by omega) hA (show n < n + 1 by omega)]
  have q3 : ¬ NW d n w 3 < 0 := by rw [i32_nlt]; exact wn 0 (by decide)
  have q4 : ¬ NW d n w 4 < 0 := by rw [i32_nlt]; exact wn 1 (by decide)
  have k1 : ¬ (nI 14 : Int32) = 1 := by decide
  have k2 : ¬ (nI 14 : Int32) = 2 := by decide
  have k3 : (¬ (nI 14 : Int32) = 0 ∧ ¬ (27 : Int32) ≤ nI 14 ∧ ¬ (nI 14 : Int32) = 3) := by decide
  unfold frs
  rw [e5, e7, e8, e9, decide_eq_false k1, decide_eq_false k2, decide_eq_true k3]
  simp only [q3, q4, m1_lt0, not_true, decide_false, decide_true, Bool.false_and, Bool.true_and, Bool.false_or, Bool.or_false, not_false_eq_true]
theorem fr_15 {d d' : HI} {n w : Nat} (h : NL d d' n w 15) (hn : n < 20) (hA : WA d' (n + 1)) : FR d' n = (FR d' (NW d n w 3).toNatClampNeg || FR d' (NW d n w 4).toNatClampNeg) := by
  obtain ⟨f, hf⟩ := NL_f h
  have wn := wn_15 h
  have e5 : d' 5 n = nI 15 := by
    rw [hf 5 (by omega) (by omega)]
    simp (decide := true) only [FN, FNr, FNs, fA, fB, fC, f2, f1, fI, ↓reduceIte]
  have e7 : d' 7 n = NW d n w 3 := by
    rw [hf 7 (by omega) (by omega)]
    simp (decide := true) only [FN, FNr, FNs, fA, fB, fC, f2, f1, fI, ↓reduceIte]
  have e8 : d' 8 n = NW d n w 4 := by
    rw [hf 8 (by omega) (by omega)]
    simp (decide := true) only [FN, FNr, FNs, fA, fB, fC, f2, f1, fI, ↓reduceIte]
  have e9 : d' 9 n = -1 := by
    rw [hf 9 (by omega) (by omega)]
    simp (decide := true) only [FN, FNr, FNs, fA, fB, fC, f2, f1, fI, ↓reduceIte]
  rw [FR_eq (show n + 1 ≤ 20 by omega) hA (show n < n + 1 by omega)]
  have q3 : ¬ NW d n w 3 < 0 := by rw [i32_nlt]; exact wn 0 (by decide)
  have q4 : ¬ NW d n w 4 < 0 := by rw [i32_nlt]; exact wn 1 (by decide)
  have k1 : ¬ (nI 15 : Int32) = 1 := by decide
  have k2 : ¬ (nI 15 : Int32) = 2 := by decide
  have k3 : (¬ (nI 15 : Int32) = 0 ∧ ¬ (27 : Int32) ≤ nI 15 ∧ ¬ (nI 15 : Int32) = 3) := by decide
  unfold frs
  rw [e5, e7, e8, e9, decide_eq_false k1, decide_eq_false k2, decide_eq_true k3]
  simp only [q3, q4, m1_lt0, not_true, decide_false, decide_true, Bool.false_and, Bool.true_and, Bool.false_or, Bool.or_false, not_false_eq_true]
theorem fr_16 {d d' : HI} {n w : Nat} (h : NL d d' n w 16) (hn : n < 20) (hA : WA d' (n + 1)) : FR d' n = (FR d' (NW d n w 3).toNatClampNeg || FR d' (NW d n w 4).toNatClampNeg) := by
  obtain ⟨f, hf⟩ := NL_f h
  have wn := wn_16 h
  have e5 : d' 5 n = nI 16 := by
    rw [hf 5 (by omega) (by omega)]
    simp (decide := true) only [FN, FNr, FNs, fA, fB, fC, f2, f1, fI, ↓reduceIte]
  have e7 : d' 7 n = NW d n w 3 := by
    rw [hf 7 (by omega) (by omega)]
    simp (decide := true) only [FN, FNr, FNs, fA, fB, fC, f2, f1, fI, ↓reduceIte]
  have e8 : d' 8 n = NW d n w 4 := by
    rw [hf 8 (by omega) (by omega)]
    simp (decide := true) only [FN, FNr, FNs, fA, fB, fC, f2, f1, fI, ↓reduceIte]
  have e9 : d' 9 n = -1 := by
    rw [hf 9 (by omega) (by omega)]
    simp (decide := true) only [FN, FNr, FNs, fA, fB, fC, f2, f1, fI, ↓reduceIte]
  rw [FR_eq (show n + 1 ≤ 20 by omega) hA (show n < n + 1 by omega)]
  have q3 : ¬ NW d n w 3 < 0 := by rw [i32_nlt]; exact wn 0 (by decide)
  have q4 : ¬ NW d n w 4 < 0 := by rw [i32_nlt]; exact wn 1 (by decide)
  have k1 : ¬ (nI 16 : Int32) = 1 := by decide
  have k2 : ¬ (nI 16 : Int32) = 2 := by decide
  have k3 : (¬ (nI 16 : Int32) = 0 ∧ ¬ (27 : Int32) ≤ nI 16 ∧ ¬ (nI 16 : Int32) = 3) := by decide
  unfold frs
  rw [e5, e7, e8, e9, decide_eq_false k1, decide_eq_false k2, decide_eq_true k3]
  simp only [q3, q4, m1_lt0, not_true, decide_false, decide_true, Bool.false_and, Bool.true_and, Bool.false_or, Bool.or_false, not_false_eq_true]
theorem fr_17 {d d' : HI} {n w : Nat} (h : NL d d' n w 17) (hn : n < 20) (hA : WA d' (n + 1)) : FR d' n = (FR d' (NW d n w 3).toNatClampNeg || FR d' (NW d n w 4).toNatClampNeg) := by
  obtain ⟨f, hf⟩ := NL_f h
  have wn := wn_17 h
  have e5 : d' 5 n = nI 17 := by
    rw [hf 5 (by omega) (by omega)]
    simp (decide := true) only [FN, FNr, FNs, fA, fB, fC, f2, f1, fI, ↓reduceIte]
  have e7 : d' 7 n = NW d n w 3 := by
    rw [hf 7 (by omega) (by omega)]
    simp (decide := true) only [FN, FNr, FNs, fA, fB, fC, f2, f1, fI, ↓reduceIte]
  have e8 : d' 8 n = NW d n w 4 := by
    rw [hf 8 (by omega) (by omega)]
    simp (decide := true) only [FN, FNr, FNs, fA, fB, fC, f2, f1, fI, ↓reduceIte]
  have e9 : d' 9 n = -1 := by
    rw [hf 9 (by omega) (by omega)]
    simp (decide := true) only [FN, FNr, FNs, fA, fB, fC, f2, f1, fI, ↓reduceIte]
  rw [FR_eq (show n + 1 ≤ 20 by omega) hA (show n < n + 1 by omega)]
  have q3 : ¬ NW d n w 3 < 0 := by rw [i32_nlt]; exact wn 0 (by decide)
  have q4 : ¬ NW d n w 4 < 0 := by rw [i32_nlt]; exact wn 1 (by decide)
  have k1 : ¬ (nI 17 : Int32) = 1 := by decide
  have k2 : ¬ (nI 17 : Int32) = 2 := by decide
  have k3 : (¬ (nI 17 : Int32) = 0 ∧ ¬ (27 : Int32) ≤ nI 17 ∧ ¬ (nI 17 : Int32) = 3) := by decide
  unfold frs
  rw [e5, e7, e8, e9, decide_eq_false k1, decide_eq_false k2, decide_eq_true k3]
  simp only [q3, q4, m1_lt0, not_true, decide_false, decide_true, Bool.false_and, Bool.true_and, Bool.false_or, Bool.or_false, not_false_eq_true]
theorem fr_18 {d d' : HI} {n w : Nat} (h : NL d d' n w 18) (hn : n < 20) (hA : WA d' (n + 1)) : FR d' n = (FR d' (NW d n w 3).toNatClampNeg || FR d' (NW d n w 4).toNatClampNeg) := by
  obtain ⟨f, hf⟩ := NL_f h
  have wn := wn_18 h
  have e5 : d' 5 n = nI 18 := by
    rw [hf 5 (by omega) (by omega)]
    simp (decide := true) only [FN, FNr, FNs, fA, fB, fC, f2, f1, fI, ↓reduceIte]
  have e7 : d' 7 n = NW d n w 3 := by
    rw [hf 7 (by omega) (by omega)]
    simp (decide := true) only [FN, FNr, FNs, fA, fB, fC, f2, f1, fI, ↓reduceIte]
  have e8 : d' 8 n = NW d n w 4 := by
    rw [hf 8 (by omega) (by omega)]
    simp (decide := true) only [FN, FNr, FNs, fA, fB, fC, f2, f1, fI, ↓reduceIte]
  have e9 : d' 9 n = -1 := by
    rw [hf 9 (by omega) (by omega)]
    simp (decide := true) only [FN, FNr, FNs, fA, fB, fC, f2, f1, fI, ↓reduceIte]
  rw [FR_eq (show n + 1 ≤ 20 by omega) hA (show n < n + 1 by omega)]
  have q3 : ¬ NW d n w 3 < 0 := by rw [i32_nlt]; exact wn 0 (by decide)
  have q4 : ¬ NW d n w 4 < 0 := by rw [i32_nlt]; exact wn 1 (by decide)
  have k1 : ¬ (nI 18 : Int32) = 1 := by decide
  have k2 : ¬ (nI 18 : Int32) = 2 := by decide
  have k3 : (¬ (nI 18 : Int32) = 0 ∧ ¬ (27 : Int32) ≤ nI 18 ∧ ¬ (nI 18 : Int32) = 3) := by decide
  unfold frs
  rw [e5, e7, e8, e9, decide_eq_false k1, decide_eq_false k2, decide_eq_true k3]
  simp only [q3, q4, m1_lt0, not_true, decide_false, decide_true, Bool.false_and, Bool.true_and, Bool.false_or, Bool.or_false, not_false_eq_true]
theorem fr_19 {d d' : HI} {n w : Nat} (h : NL d d' n w 19) (hn : n < 20) (hA : WA d' (n + 1)) : FR d' n = (FR d' (NW d n w 3).toNatClampNeg || FR d' (NW d n w 4).toNatClampNeg) := by
  obtain ⟨f, hf⟩ := NL_f h
  have wn := wn_19 h
  have e5 : d' 5 n = nI 19 := by
    rw [hf 5 (by omega) (by omega)]
    simp (decide := true) only [FN, FNr, FNs, fA, fB, fC, f2, f1, fI, ↓reduceIte]
  have e7 : d' 7 n = NW d n w 3 := by
    rw [hf 7 (by omega) (by omega)]
    simp (decide := true) only [FN, FNr, FNs, fA, fB, fC, f2, f1, fI, ↓reduceIte]
  have e8 : d' 8 n = NW d n w 4 := by
    rw [hf 8 (by omega) (by omega)]
    simp (decide := true) only [FN, FNr, FNs, fA, fB, fC, f2, f1, fI, ↓reduceIte]
  have e9 : d' 9 n = -1 := by
    rw [hf 9 (by omega) (by omega)]
    simp (decide := true) only [FN, FNr, FNs, fA, fB, fC, f2, f1, fI, ↓reduceIte]
  rw [FR_eq (show n + 1 ≤ 20 by omega) hA (show n < n + 1 by omega)]
  have q3 : ¬ NW d n w 3 < 0 := by rw [i32_nlt]; exact wn 0 (by decide)
  have q4 : ¬ NW d n w 4 < 0 := by rw [i32_nlt]; exact wn 1 (by decide)
  have k1 : ¬ (nI 19 : Int32) = 1 := by decide
  have k2 : ¬ (nI 19 : Int32) = 2 := by decide
  have k3 : (¬ (nI 19 : Int32) = 0 ∧ ¬ (27 : Int32) ≤ nI 19 ∧ ¬ (nI 19 : Int32) = 3) := by decide
  unfold frs
  rw [e5, e7, e8, e9, decide_eq_false k1, decide_eq_false k2, decide_eq_true k3]
  simp only [q3, q4, m1_lt0, not_true, decide_false, decide_true, Bool.false_and, Bool.true_and, Bool.false_or, Bool.or_false, not_false_eq_true]
theorem fr_20 {d d' : HI} {n w : Nat} (h : NL d d' n w 20) (hn : n < 20) (hA : WA d' (n + 1)) : FR d' n = (FR d' (NW d n w 3).toNatClampNeg || FR d' (NW d n w 4).toNatClampNeg) := by
  obtain ⟨f, hf⟩ := NL_f h
  have wn := wn_20 h
  have e5 : d' 5 n = nI 20 := by
    rw [hf 5 (by omega) (by omega)]
    simp (decide := true) only [FN, FNr, FNs, fA, fB, fC, f2, f1, fI, ↓reduceIte]
  have e7 : d' 7 n = NW d n w 3 := by
    rw [hf 7 (by omega) (by omega)]
    simp (decide := true) only [FN, FNr, FNs, fA, fB, fC, f2, f1, fI, ↓reduceIte]
  have e8 : d' 8 n = NW d n w 4 := by
    rw [hf 8 (by omega) (by omega)]
    simp (decide := true) only [FN, FNr, FNs, fA, fB, fC, f2, f1, fI, ↓reduceIte]
  have e9 : d' 9 n = -1 := by
    rw [hf 9 (by omega) (by omega)]
    simp (decide := true) only [FN, FNr, FNs, fA, fB, fC, f2, f1, fI, ↓reduceIte]
  rw [FR_eq (show n + 1 ≤ 20 by omega) hA (show n < n + 1 by omega)]
  have q3 : ¬ NW d n w 3 < 0 := by rw [i32_nlt]; exact wn 0 (by decide)
  have q4 : ¬ NW d n w 4 < 0 := by rw [i32_nlt]; exact wn 1 (by decide)
  have k1 : ¬ (nI 20 : Int32) = 1 := by decide
  have k2 : ¬ (nI 20 : Int32) = 2 := by decide
  have k3 : (¬ (nI 20 : Int32) = 0 ∧ ¬ (27 : Int32) ≤ nI 20 ∧ ¬ (nI 20 : Int32) = 3) := by decide
  unfold frs
  rw [e5, e7, e8, e9, decide_eq_false k1, decide_eq_false k2, decide_eq_true k3]
  simp only [q3, q4, m1_lt0, not_true, decide_false, decide_true, Bool.false_and, Bool.true_and, Bool.false_or, Bool.or_false, not_false_eq_true]
theorem fr_21 {d d' : HI} {n w : Nat} (h : NL d d' n w 21) (hn : n < 20) (hA : WA d' (n + 1)) : FR d' n = (FR d' (NW d n w 3).toNatClampNeg) := by
  obtain ⟨f, hf⟩ := NL_f h
  have wn := wn_21 h
  have e5 : d' 5 n = nI 21 := by
    rw [hf 5 (by omega) (by omega)]
    simp (decide := true) only [FN, FNr, FNs, fA, fB, fC, f2, f1, fI, ↓reduceIte]
  have e7 : d' 7 n = NW d n w 3 := by
    rw [hf 7 (by omega) (by omega)]
    simp (decide := true) only [FN, FNr, FNs, fA, fB, fC, f2, f1, fI, ↓reduceIte]
  have e8 : d' 8 n = -1 := by
    rw [hf 8 (by omega) (by omega)]
    simp (decide := true) only [FN, FNr, FNs, fA, fB, fC, f2, f1, fI, ↓reduceIte]
  have e9 : d' 9 n = -1 := by
    rw [hf 9 (by omega) (by omega)]
    simp (decide := true) only [FN, FNr, FNs, fA, fB, fC, f2, f1, fI, ↓reduceIte]
  rw [FR_eq (show n + 1 ≤ 20 by omega) hA (show n < n + 1 by omega)]
  have q3 : ¬ NW d n w 3 < 0 := by rw [i32_nlt]; exact wn 0 (by decide)
  have k1 : ¬ (nI 21 : Int32) = 1 := by decide
  have k2 : ¬ (nI 21 : Int32) = 2 := by decide
  have k3 : (¬ (nI 21 : Int32) = 0 ∧ ¬ (27 : Int32) ≤ nI 21 ∧ ¬ (nI 21 : Int32) = 3) := by decide
  unfold frs
  rw [e5, e7, e8, e9, decide_eq_false k1, decide_eq_false k2, decide_eq_true k3]
  simp only [q3, m1_lt0, not_true, decide_false, decide_true, Bool.false_and, Bool.true_and, Bool.false_or, Bool.or_false, not_false_eq_true]
theorem fr_22 {d d' : HI} {n w : Nat} (h : NL d d' n w 22) (hn : n < 20) (hA : WA d' (n + 1)) : FR d' n = (FR d' (NW d n w 3).toNatClampNeg) := by
  obtain ⟨f, hf⟩ := NL_f h
  have wn := wn_22 h
  have e5 : d' 5 n = nI 22 := by
    rw [hf 5 (by omega) (by omega)]
    simp (decide := true) only [FN, FNr, FNs, fA, fB, fC, f2, f1, fI, ↓reduceIte]
  have e7 : d' 7 n = NW d n w 3 := by
    rw [hf 7 (by omega) (by omega)]
    simp (decide := true) only [FN, FNr, FNs, fA, fB, fC, f2, f1, fI, ↓reduceIte]
  have e8 : d' 8 n = -1 := by
    rw [hf 8 (by omega) (by omega)]
    simp (decide := true) only [FN, FNr, FNs, fA, fB, fC, f2, f1, fI, ↓reduceIte]
  have e9 : d' 9 n = -1 := by
    rw [hf 9 (by omega) (by omega)]
    simp (decide := true) only [FN, FNr, FNs, fA, fB, fC, f2, f1, fI, ↓reduceIte]
  rw [FR_eq (show n + 1 ≤ 20 by omega) hA (show n < n + 1 by omega)]
  have q3 : ¬ NW d n w 3 < 0 := by rw [i32_nlt]; exact wn 0 (by decide)
  have k1 : ¬ (nI 22 : Int32) = 1 := by decide
  have k2 : ¬ (nI 22 : Int32) = 2 := by decide
  have k3 : (¬ (nI 22 : Int32) = 0 ∧ ¬ (27 : Int32) ≤ nI 22 ∧ ¬ (nI 22 : Int32) = 3) := by decide
  unfold frs
  rw [e5, e7, e8, e9, decide_eq_false k1, decide_eq_false k2, decide_eq_true k3]
  simp only [q3, m1_lt0, not_true, decide_false, decide_true, Bool.false_and, Bool.true_and, Bool.false_or, Bool.or_false, not_false_eq_true]
theorem fr_23 {d d' : HI} {n w : Nat} (h : NL d d' n w 23) (hn : n < 20) (hA : WA d' (n + 1)) : FR d' n = (FR d' (NW d n w 3).toNatClampNeg) := by
  obtain ⟨f, hf⟩ := NL_f h
  have wn := wn_23 h
  have e5 : d' 5 n = nI 23 := by
    rw [hf 5 (by omega) (by omega)]
    simp (decide := true) only [FN, FNr, FNs, fA, fB, fC, f2, f1, fI, ↓reduceIte]
  have e7 : d' 7 n = NW d n w 3 := by
    rw [hf 7 (by omega) (by omega)]
    simp (decide := true) only [FN, FNr, FNs, fA, fB, fC, f2, f1, fI, ↓reduceIte]
  have e8 : d' 8 n = -1 := by
    rw [hf 8 (by omega) (by omega)]
    simp (decide := true) only [FN, FNr, FNs, fA, fB, fC, f2, f1, fI, ↓reduceIte]
  have e9 : d' 9 n = -1 := by
    rw [hf 9 (by omega) (by omega)]
    simp (decide := true) only [FN, FNr, FNs, fA, fB, fC, f2, f1, fI, ↓reduceIte]
  rw [FR_eq (show n + 1 ≤ 20 by omega) hA (show n < n + 1 by omega)]
  have q3 : ¬ NW d n w 3 < 0 := by rw [i32_nlt]; exact wn 0 (by decide)
  have k1 : ¬ (nI 23 : Int32) = 1 := by decide
  have k2 : ¬ (nI 23 : Int32) = 2 := by decide
  have k3 : (¬ (nI 23 : Int32) = 0 ∧ ¬ (27 : Int32) ≤ nI 23 ∧ ¬ (nI 23 : Int32) = 3) := by decide
  unfold frs
  rw [e5, e7, e8, e9, decide_eq_false k1, decide_eq_false k2, decide_eq_true k3]
  simp only [q3, m1_lt0, not_true, decide_false, decide_true, Bool.false_and, Bool.true_and, Bool.false_or, Bool.or_false, not_false_eq_true]
theorem fr_24 {d d' : HI} {n w : Nat} (h : NL d d' n w 24) (hn : n < 20) (hA : WA d' (n + 1)) : FR d' n = (FR d' (NW d n w 3).toNatClampNeg || FR d' (NW d n w 4).toNatClampNeg || FR d' (NW d n w 5).toNatClampNeg) := by
  obtain ⟨f, hf⟩ := NL_f h
  have wn := wn_24 h
  have e5 : d' 5 n = nI 24 := by
    rw [hf 5 (by omega) (by omega)]
    simp (decide := true) only [FN, FNr, FNs, fA, fB, fC, f2, f1, fI, ↓reduceIte]
  have e7 : d' 7 n = NW d n w 4 := by
    rw [hf 7 (by omega) (by omega)]
    simp (decide := true) only [FN, FNr, FNs, fA, fB, fC, f2, f1, fI, ↓reduceIte]
  have e8 : d' 8 n = NW d n w 5 := by
    rw [hf 8 (by omega) (by omega)]
    simp (decide := true) only [FN, FNr, FNs, fA, fB, fC, f2, f1, fI, ↓reduceIte]
  have e9 : d' 9 n = NW d n w 3 := by
    rw [hf 9 (by omega) (by omega)]
    simp (decide := true) only [FN, FNr, FNs, fA, fB, fC, f2, f1, fI, ↓reduceIte]
  rw [FR_eq (show n + 1 ≤ 20 by omega) hA (show n < n + 1 by omega)]
  have q3 : ¬ NW d n w 3 < 0 := by rw [i32_nlt]; exact wn 0 (by decide)
  have q4 : ¬ NW d n w 4 < 0 := by rw [i32_nlt]; exact wn 1 (by decide)
  have q5 : ¬ NW d n w 5 < 0 := by rw [i32_nlt]; exact wn 2 (by decide)
  have k1 : ¬ (nI 24 : Int32) = 1 := by decide
  have k2 : ¬ (nI 24 : Int32) = 2 := by decide
  have k3 : (¬ (nI 24 : Int32) = 0 ∧ ¬ (27 : Int32) ≤ nI 24 ∧ ¬ (nI 24 : Int32) = 3) := by decide
  unfold frs
  rw [e5, e7, e8, e9, decide_eq_false k1, decide_eq_false k2, decide_eq_true k3]
  simp only [q3, q4, q5, m1_lt0, not_true, decide_false, decide_true, Bool.false_and, Bool.true_and, Bool.false_or, Bool.or_false, not_false_eq_true]
  cases FR d' (NW d n w 3).toNatClampNeg <;> cases FR d' (NW d n w 4).toNatClampNeg <;> cases FR d' (NW d n w 5).toNatClampNeg <;> rfl
theorem fr_25 {d d' : HI} {n w : Nat} (h : NL d d' n w 25) (hn : n < 20) (hA : WA d' (n + 1)) : FR d' n = (FR d' (NW d n w 3).toNatClampNeg || FR d' (NW d n w 4).toNatClampNeg) := by
  obtain ⟨f, hf⟩ := NL_f h
  have wn := wn_25 h
  have e5 : d' 5 n = nI 25 := by
    rw [hf 5 (by omega) (by omega)]
    simp (decide := true) only [FN, FNr, FNs, fA, fB, fC, f2, f1, fI, ↓reduceIte]
  have e7 : d' 7 n = NW d n w 3 := by
    rw [hf 7 (by omega) (by omega)]
    simp (decide := true) only [FN, FNr, FNs, fA, fB, fC, f2, f1, fI, ↓reduceIte]
  have e8 : d' 8 n = NW d n w 4 := by
    rw [hf 8 (by omega) (by omega)]
    simp (decide := true) only [FN, FNr, FNs, fA, fB, fC, f2, f1, fI, ↓reduceIte]
  have e9 : d' 9 n = -1 := by
    rw [hf 9 (by omega) (by omega)]
    simp (decide := true) only [FN, FNr, FNs, fA, fB, fC, f2, f1, fI, ↓reduceIte]
  rw [FR_eq (show n + 1 ≤ 20 by omega) hA (show n < n + 1 by omega)]
  have q3 : ¬ NW d n w 3 < 0 := by rw [i32_nlt]; exact wn 0 (by decide)
  have q4 : ¬ NW d n w 4 < 0 := by rw [i32_nlt]; exact wn 1 (by decide)
  have k1 : ¬ (nI 25 : Int32) = 1 := by decide
  have k2 : ¬ (nI 25 : Int32) = 2 := by decide
  have k3 : (¬ (nI 25 : Int32) = 0 ∧ ¬ (27 : Int32) ≤ nI 25 ∧ ¬ (nI 25 : Int32) = 3) := by decide
  unfold frs
  rw [e5, e7, e8, e9, decide_eq_false k1, decide_eq_false k2, decide_eq_true k3]
  simp only [q3, q4, m1_lt0, not_true, decide_false, decide_true, Bool.false_and, Bool.true_and, Bool.false_or, Bool.or_false, not_false_eq_true]
theorem fr_26 {d d' : HI} {n w : Nat} (h : NL d d' n w 26) (hn : n < 20) (hA : WA d' (n + 1)) : FR d' n = (FR d' (NW d n w 3).toNatClampNeg || FR d' (NW d n w 4).toNatClampNeg || FR d' (NW d n w 5).toNatClampNeg) := by
  obtain ⟨f, hf⟩ := NL_f h
  have wn := wn_26 h
  have e5 : d' 5 n = nI 26 := by
    rw [hf 5 (by omega) (by omega)]
    simp (decide := true) only [FN, FNr, FNs, fA, fB, fC, f2, f1, fI, ↓reduceIte]
  have e7 : d' 7 n = NW d n w 3 := by
    rw [hf 7 (by omega) (by omega)]
    simp (decide := true) only [FN, FNr, FNs, fA, fB, fC, f2, f1, fI, ↓reduceIte]
  have e8 : d' 8 n = NW d n w 4 := by
    rw [hf 8 (by omega) (by omega)]
    simp (decide := true) only [FN, FNr, FNs, fA, fB, fC, f2, f1, fI, ↓reduceIte]
  have e9 : d' 9 n = NW d n w 5 := by
    rw [hf 9 (by omega) (by omega)]
    simp (decide := true) only [FN, FNr, FNs, fA, fB, fC, f2, f1, fI, ↓reduceIte]
  rw [FR_eq (show n + 1 ≤ 20 by omega) hA (show n < n + 1 by omega)]
  have q3 : ¬ NW d n w 3 < 0 := by rw [i32_nlt]; exact wn 0 (by decide)
  have q4 : ¬ NW d n w 4 < 0 := by rw [i32_nlt]; exact wn 1 (by decide)
  have q5 : ¬ NW d n w 5 < 0 := by rw [i32_nlt]; exact wn 2 (by decide)
  have k1 : ¬ (nI 26 : Int32) = 1 := by decide
  have k2 : ¬ (nI 26 : Int32) = 2 := by decide
  have k3 : (¬ (nI 26 : Int32) = 0 ∧ ¬ (27 : Int32) ≤ nI 26 ∧ ¬ (nI 26 : Int32) = 3) := by decide
  unfold frs
  rw [e5, e7, e8, e9, decide_eq_false k1, decide_eq_false k2, decide_eq_true k3]
  simp only [q3, q4, q5, m1_lt0, not_true, decide_false, decide_true, Bool.false_and, Bool.true_and, Bool.false_or, Bool.or_false, not_false_eq_true]
theorem wn_n {d d' : HI} {n w κ : Nat} (h : NL d d' n w κ) : ∀ m, m < (nwl κ).length → 0 ≤ NW d n w ((nwl κ).getD m 0) := by
  have hκ := h.2.2.2.1
  by_cases c : κ ≤ 2
  · intro m hm
    have : nwl κ = [] := by unfold nwl; rw [if_pos (by omega)]
    rw [this] at hm; exact absurd hm (Nat.not_lt_zero m)
  · have hc : κ = 3 ∨ κ = 4 ∨ κ = 5 ∨ κ = 6 ∨ κ = 7 ∨ κ = 8 ∨ κ = 9 ∨ κ = 10 ∨ κ = 11 ∨ κ = 12 ∨ κ = 13 ∨ κ = 14 ∨ κ = 15 ∨ κ = 16 ∨ κ = 17 ∨ κ = 18 ∨ κ = 19 ∨ κ = 20 ∨ κ = 21 ∨ κ = 22 ∨ κ = 23 ∨ κ = 24 ∨ κ = 25 ∨ κ = 26 ∨ κ = 27 ∨ κ = 28 ∨ κ = 29 ∨ κ = 30 := by omega
    rcases hc with rfl | rfl | rfl | rfl | rfl | rfl | rfl | rfl | rfl | rfl | rfl | rfl | rfl | rfl | rfl | rfl | rfl | rfl | rfl | rfl | rfl | rfl | rfl | rfl | rfl | rfl | rfl | rfl
    · exact wn_3 h
    · exact wn_4 h
    · exact wn_5 h
    · exact wn_6 h
    · exact wn_7 h
    · exact wn_8 h
    · exact wn_9 h
    · exact wn_10 h
    · exact wn_11 h
    · exact wn_12 h
    · exact wn_13 h
    · exact wn_14 h
    · exact wn_15 h
    · exact wn_16 h
    · exact wn_17 h
    · exact wn_18 h
    · exact wn_19 h
    · exact wn_20 h
    · exact wn_21 h
    · exact wn_22 h
    · exact wn_23 h
    · exact wn_24 h
    · exact wn_25 h
    · exact wn_26 h
    · exact wn_27 h
    · exact wn_28 h
    · exact wn_29 h
    · exact wn_30 h
/-- the row of the new node is fixed just if the node is -/
theorem fr_n {d d' : HI} {n w κ : Nat} (h : NL d d' n w κ) (hn : n < 20) (hA : WA d' (n + 1)) (hk : 1 ≤ κ ∧ κ ≤ 26) : ((! FR d' n) = true) ↔ (¬ (κ = 1 ∨ κ = 2) ∧ ∀ m, m < (nwl κ).length → (! FR d (kX d n w κ m)) = true) := by
  have hE := h.2.2.1
  have hW := h.2.1.1
  have frc : ∀ j, 0 ≤ NW d n w j → FR d' (NW d n w j).toNatClampNeg = FR d (NW d n w j).toNatClampNeg := fun j q => by
    obtain ⟨k, s', hk', hs', e, hno, e5', ec, _⟩ := ndf hW w j q
    rw [ec]; exact FR_c hE hk'
  by_cases c : κ = 1 ∨ κ = 2
  · have : FR d' n = true := by
      rw [FR_eq (show n + 1 ≤ 20 by omega) hA (show n < n + 1 by omega)]
      unfold frs
      rw [N5 h]
      rcases c with rfl | rfl
      · rw [decide_eq_true (show (nI 1 : Int32) = 1 from rfl)]; rfl
      · rw [decide_eq_true (show (nI 2 : Int32) = 2 from rfl)]; simp
    rw [this]
    constructor
    · intro y; exact absurd y (by decide)
    · intro y; exact absurd c y.1
  · have wn := wn_n h
    have hc : κ = 3 ∨ κ = 4 ∨ κ = 5 ∨ κ = 6 ∨ κ = 7 ∨ κ = 8 ∨ κ = 9 ∨ κ = 10 ∨ κ = 11 ∨ κ = 12 ∨ κ = 13 ∨ κ = 14 ∨ κ = 15 ∨ κ = 16 ∨ κ = 17 ∨ κ = 18 ∨ κ = 19 ∨ κ = 20 ∨ κ = 21 ∨ κ = 22 ∨ κ = 23 ∨ κ = 24 ∨ κ = 25 ∨ κ = 26 := by omega
    rcases hc with rfl | rfl | rfl | rfl | rfl | rfl | rfl | rfl | rfl | rfl | rfl | rfl | rfl | rfl | rfl | rfl | rfl | rfl | rfl | rfl | rfl | rfl | rfl | rfl
    · rw [fr_3 h hn hA]
      simp only [kX]
      have hl : (nwl 3).length = 0 := by decide
      rw [hl] at wn ⊢
      constructor
      · intro y
        refine ⟨by decide, fun m hm => ?_⟩
        exact absurd hm (Nat.not_lt_zero m)
      · intro y
        rfl
    · rw [fr_4 h hn hA]
      simp only [kX]
      have hl : (nwl 4).length = 1 := by decide
      rw [hl] at wn ⊢
      have w3 : FR d' (NW d n w 3).toNatClampNeg = FR d (NW d n w 3).toNatClampNeg := frc 3 (wn 0 (by decide))
      rw [w3]
      constructor
      · intro y
        refine ⟨by decide, fun m hm => ?_⟩
        have hc : m = 0 := by omega
        subst hc
        · show (! FR d (NW d n w 3).toNatClampNeg) = true
          revert y
          generalize FR d (NW d n w 3).toNatClampNeg = x3
          revert x3
          decide
      · intro y
        have y0 : (! FR d (NW d n w 3).toNatClampNeg) = true := y.2 0 (by decide)
        simp only [Bool.not_eq_true'] at y0 ⊢
        simp [y0]
    · rw [fr_5 h hn hA]
      simp only [kX]
      have hl : (nwl 5).length = 1 := by decide
      rw [hl] at wn ⊢
      have w3 : FR d' (NW d n w 3).toNatClampNeg = FR d (NW d n w 3).toNatClampNeg := frc 3 (wn 0 (by decide))
      rw [w3]
      constructor
      · intro y
        refine ⟨by decide, fun m hm => ?_⟩
        have hc : m = 0 := by omega
        subst hc
        · show (! FR d (NW d n w 3).toNatClampNeg) = true
          revert y
          generalize FR d (NW d n w 3).toNatClampNeg = x3
          revert x3
          decide
      · intro y
        have y0 : (! FR d (NW d n w 3).toNatClampNeg) = true := y.2 0 (by decide)
        simp only [Bool.not_eq_true'] at y0 ⊢
        simp [y0]
    · rw [fr_6 h hn hA]
      simp only [kX]
      have hl : (nwl 6).length = 1 := by decide
      rw [hl] at wn ⊢
      have w3 : FR d' (NW d n w 3).toNatClampNeg = FR d (NW d n w 3).toNatClampNeg := frc 3 (wn 0 (by decide))
      rw [w3]
      constructor
      · intro y
        refine ⟨by decide, fun m hm => ?_⟩
        have hc : m = 0 := by omega
        subst hc
        · show (! FR d (NW d n w 3).toNatClampNeg) = true
          revert y
          generalize FR d (NW d n w 3).toNatClampNeg = x3
          revert x3
          decide
      · intro y
        have y0 : (! FR d (NW d n w 3).toNatClampNeg) = true := y.2 0 (by decide)
        simp only [Bool.not_eq_true'] at y0 ⊢
        simp [y0]
    · rw [fr_7 h hn hA]
      simp only [kX]
      have hl : (nwl 7).length = 2 := by decide
      rw [hl] at wn ⊢
      have w3 : FR d' (NW d n w 3).toNatClampNeg = FR d (NW d n w 3).toNatClampNeg := frc 3 (wn 0 (by decide))
      rw [w3]
      have w4 : FR d' (NW d n w 4).toNatClampNeg = FR d (NW d n w 4).toNatClampNeg := frc 4 (wn 1 (by decide))
      rw [w4]
      constructor
      · intro y
        refine ⟨by decide, fun m hm => ?_⟩
        have hc : m = 0 ∨ m = 1 := by omega
        rcases hc with rfl | rfl
        · show (! FR d (NW d n w 3).toNatClampNeg) = true
          revert y
          generalize FR d (NW d n w 3).toNatClampNeg = x3
          generalize FR d (NW d n w 4).toNatClampNeg = x4
          revert x3 x4
          decide
        · show (! FR d (NW d n w 4).toNatClampNeg) = true
          revert y
          generalize FR d (NW d n w 3).toNatClampNeg = x3
          generalize FR d (NW d n w 4).toNatClampNeg = x4
          revert x3 x4
          decide
      · intro y
        have y0 : (! FR d (NW d n w 3).toNatClampNeg) = true := y.2 0 (by decide)
        have y1 : (! FR d (NW d n w 4).toNatClampNeg) = true := y.2 1 (by decide)
        simp only [Bool.not_eq_true'] at y0 y1 ⊢
        simp [y0, y1]
    · rw [fr_8 h hn hA]
      simp only [kX]
      have hl : (nwl 8).length = 2 := by decide
      rw [hl] at wn ⊢
      have w3 : FR d' (NW d n w 3).toNatClampNeg = FR d (NW d n w 3).toNatClampNeg := frc 3 (wn 0 (by decide))
      rw [w3]
      have w4 : FR d' (NW d n w 4).toNatClampNeg = FR d (NW d n w 4).toNatClampNeg := frc 4 (wn 1 (by decide))
      rw [w4]
      constructor
      · intro y
        refine ⟨by decide, fun m hm => ?_⟩
        have hc : m = 0 ∨ m = 1 := by omega
        rcases hc with rfl | rfl
        · show (! FR d (NW d n w 3).toNatClampNeg) = true
          revert y
          generalize FR d (NW d n w 3).toNatClampNeg = x3
          generalize FR d (NW d n w 4).toNatClampNeg = x4
          revert x3 x4
          decide
        · show (! FR d (NW d n w 4).toNatClampNeg) = true
          revert y
          generalize FR d (NW d n w 3).toNatClampNeg = x3
          generalize FR d (NW d n w 4).toNatClampNeg = x4
          revert x3 x4
          decide
      · intro y
        have y0 : (! FR d (NW d n w 3).toNatClampNeg) = true := y.2 0 (by decide)
        have y1 : (! FR d (NW d n w 4).toNatClampNeg) = true := y.2 1 (by decide)
        simp only [Bool.not_eq_true'] at y0 y1 ⊢
        simp [y0, y1]
    · rw [fr_9 h hn hA]
      simp only [kX]
      have hl : (nwl 9).length = 2 := by decide
      rw [hl] at wn ⊢
      have w3 : FR d' (NW d n w 3).toNatClampNeg = FR d (NW d n w 3).toNatClampNeg := frc 3 (wn 0 (by decide))
      rw [w3]
      have w4 : FR d' (NW d n w 4).toNatClampNeg = FR d (NW d n w 4).toNatClampNeg := frc 4 (wn 1 (by decide))
      rw [w4]
      constructor
      · intro y
        refine ⟨by decide, fun m hm => ?_⟩
        have hc : m = 0 ∨ m = 1 := by omega
        rcases hc with rfl | rfl
        · show (! FR d (NW d n w 3).toNatClampNeg) = true
          revert y
          generalize FR d (NW d n w 3).toNatClampNeg = x3
          generalize FR d (NW d n w 4).toNatClampNeg = x4
          revert x3 x4
          decide
        · show (! FR d (NW d n w 4).toNatClampNeg) = true
          revert y
          generalize FR d (NW d n w 3).toNatClampNeg = x3
          generalize FR d (NW d n w 4).toNatClampNeg = x4
          revert x3 x4
          decide
      · intro y
        have y0 : (! FR d (NW d n w 3).toNatClampNeg) = true := y.2 0 (by decide)
        have y1 : (! FR d (NW d n w 4).toNatClampNeg) = true := y.2 1 (by decide)
        simp only [Bool.not_eq_true'] at y0 y1 ⊢
        simp [y0, y1]
    · rw [fr_10 h hn hA]
      simp only [kX]
      have hl : (nwl 10).length = 2 := by decide
      rw [hl] at wn ⊢
      have w3 : FR d' (NW d n w 3).toNatClampNeg = FR d (NW d n w 3).toNatClampNeg := frc 3 (wn 0 (by decide))
      rw [w3]
      have w4 : FR d' (NW d n w 4).toNatClampNeg = FR d (NW d n w 4).toNatClampNeg := frc 4 (wn 1 (by decide))
      rw [w4]
      constructor
      · intro y
        refine ⟨by decide, fun m hm => ?_⟩
        have hc : m = 0 ∨ m = 1 := by omega
        rcases hc with rfl | rfl
        · show (! FR d (NW d n w 3).toNatClampNeg) = true
          revert y
          generalize FR d (NW d n w 3).toNatClampNeg = x3
          generalize FR d (NW d n w 4).toNatClampNeg = x4
          revert x3 x4
          decide
        · show (! FR d (NW d n w 4).toNatClampNeg) = true
          revert y
          generalize FR d (NW d n w 3).toNatClampNeg = x3
          generalize FR d (NW d n w 4).toNatClampNeg = x4
          revert x3 x4
          decide
      · intro y
        have y0 : (! FR d (NW d n w 3).toNatClampNeg) = true := y.2 0 (by decide)
        have y1 : (! FR d (NW d n w 4).toNatClampNeg) = true := y.2 1 (by decide)
        simp only [Bool.not_eq_true'] at y0 y1 ⊢
        simp [y0, y1]
    · rw [fr_11 h hn hA]
      simp only [kX]
      have hl : (nwl 11).length = 2 := by decide
      rw [hl] at wn ⊢
      have w3 : FR d' (NW d n w 3).toNatClampNeg = FR d (NW d n w 3).toNatClampNeg := frc 3 (wn 0 (by decide))
      rw [w3]
      have w4 : FR d' (NW d n w 4).toNatClampNeg = FR d (NW d n w 4).toNatClampNeg := frc 4 (wn 1 (by decide))
      rw [w4]
      constructor
      · intro y
        refine ⟨by decide, fun m hm => ?_⟩
        have hc : m = 0 ∨ m = 1 := by omega
        rcases hc with rfl | rfl
        · show (! FR d (NW d n w 3).toNatClampNeg) = true
          revert y
          generalize FR d (NW d n w 3).toNatClampNeg = x3
          generalize FR d (NW d n w 4).toNatClampNeg = x4
          revert x3 x4
          decide
        · show (! FR d (NW d n w 4).toNatClampNeg) = true
          revert y
          generalize FR d (NW d n w 3).toNatClampNeg = x3
          generalize FR d (NW d n w 4).toNatClampNeg = x4
          revert x3 x4
          decide
      · intro y
        have y0 : (! FR d (NW d n w 3).toNatClampNeg) = true := y.2 0 (by decide)
        have y1 : (! FR d (NW d n w 4).toNatClampNeg) = true := y.2 1 (by decide)
        simp only [Bool.not_eq_true'] at y0 y1 ⊢
        simp [y0, y1]
    · rw [fr_12 h hn hA]
      simp only [kX]
      have hl : (nwl 12).length = 2 := by decide
      rw [hl] at wn ⊢
      have w3 : FR d' (NW d n w 3).toNatClampNeg = FR d (NW d n w 3).toNatClampNeg := frc 3 (wn 0 (by decide))
      rw [w3]
      have w4 : FR d' (NW d n w 4).toNatClampNeg = FR d (NW d n w 4).toNatClampNeg := frc 4 (wn 1 (by decide))
      rw [w4]
      constructor
      · intro y
        refine ⟨by decide, fun m hm => ?_⟩
        have hc : m = 0 ∨ m = 1 := by omega
        rcases hc with rfl | rfl
        · show (! FR d (NW d n w 3).toNatClampNeg) = true
          revert y
          generalize FR d (NW d n w 3).toNatClampNeg = x3
          generalize FR d (NW d n w 4).toNatClampNeg = x4
          revert x3 x4
          decide
        · show (! FR d (NW d n w 4).toNatClampNeg) = true
          revert y
          generalize FR d (NW d n w 3).toNatClampNeg = x3
          generalize FR d (NW d n w 4).toNatClampNeg = x4
          revert x3 x4
          decide
      · intro y
        have y0 : (! FR d (NW d n w 3).toNatClampNeg) = true := y.2 0 (by decide)
        have y1 : (! FR d (NW d n w 4).toNatClampNeg) = true := y.2 1 (by decide)
        simp only [Bool.not_eq_true'] at y0 y1 ⊢
        simp [y0, y1]
    · rw [fr_13 h hn hA]
      simp only [kX]
      have hl : (nwl 13).length = 2 := by decide
      rw [hl] at wn ⊢
      have w3 : FR d' (NW d n w 3).toNatClampNeg = FR d (NW d n w 3).toNatClampNeg := frc 3 (wn 0 (by decide))
      rw [w3]
      have w4 : FR d' (NW d n w 4).toNatClampNeg = FR d (NW d n w 4).toNatClampNeg := frc 4 (wn 1 (by decide))
      rw [w4]
      constructor
      · intro y
        refine ⟨by decide, fun m hm => ?_⟩
        have hc : m = 0 ∨ m = 1 := by omega
        rcases hc with rfl | rfl
        · show (! FR d (NW d n w 3).toNatClampNeg) = true
          revert y
          generalize FR d (NW d n w 3).toNatClampNeg = x3
          generalize FR d (NW d n w 4).toNatClampNeg = x4
          revert x3 x4
          decide
        · show (! FR d (NW d n w 4).toNatClampNeg) = true
          revert y
          generalize FR d (NW d n w 3).toNatClampNeg = x3
          generalize FR d (NW d n w 4).toNatClampNeg = x4
          revert x3 x4
          decide
      · intro y
        have y0 : (! FR d (NW d n w 3).toNatClampNeg) = true := y.2 0 (by decide)
        have y1 : (! FR d (NW d n w 4).toNatClampNeg) = true := y.2 1 (by decide)
        simp only [Bool.not_eq_true'] at y0 y1 ⊢
        simp [y0, y1]
    · rw [fr_14 h hn hA]
      simp only [kX]
      have hl : (nwl 14).length = 2 := by decide
      rw [hl] at wn ⊢
      have w3 : FR d' (NW d n w 3).toNatClampNeg = FR d (NW d n w 3).toNatClampNeg := frc 3 (wn 0 (by decide))
      rw [w3]
      have w4 : FR d' (NW d n w 4).toNatClampNeg = FR d (NW d n w 4).toNatClampNeg := frc 4 (wn 1 (by decide))
      rw [w4]
      constructor
      · intro y
        refine ⟨by decide, fun m hm => ?_⟩
        have hc : m = 0 ∨ m = 1 := by omega
        rcases hc with rfl | rfl
        · show (! FR d (NW d n w 3).toNatClampNeg) = true
          revert y
          generalize FR d (NW d n w 3).toNatClampNeg = x3
          generalize FR d (NW d n w 4).toNatClampNeg = x4
          revert x3 x4
          decide
        · show (! FR d (NW d n w 4).toNatClampNeg) = true
          revert y
          generalize FR d (NW d n w 3).toNatClampNeg = x3
          generalize FR d (NW d n w 4).toNatClampNeg = x4
          revert x3 x4
          decide
      · intro y
        have y0 : (! FR d (NW d n w 3).toNatClampNeg) = true := y.2 0 (by decide)
        have y1 : (! FR d (NW d n w 4).toNatClampNeg) = true := y.2 1 (by decide)
        simp only [Bool.not_eq_true'] at y0 y1 ⊢
        simp [y0, y1]
    · rw [fr_15 h hn hA]
      simp only [kX]
      have hl : (nwl 15).length = 2 := by decide
      rw [hl] at wn ⊢
      have w3 : FR d' (NW d n w 3).toNatClampNeg = FR d (NW d n w 3).toNatClampNeg := frc 3 (wn 0 (by decide))
      rw [w3]
      have w4 : FR d' (NW d n w 4).toNatClampNeg = FR d (NW d n w 4).toNatClampNeg := frc 4 (wn 1 (by decide))
      rw [w4]
      constructor
      · intro y
        refine ⟨by decide, fun m hm => ?_⟩
        have hc : m = 0 ∨ m = 1 := by omega
        rcases hc with rfl | rfl
        · show (! FR d (NW d n w 3).toNatClampNeg) = true
          revert y
          generalize FR d (NW d n w 3).toNatClampNeg = x3
          generalize FR d (NW d n w 4).toNatClampNeg = x4
          revert x3 x4
          decide
        · show (! FR d (NW d n w 4).toNatClampNeg) = true
          revert y
          generalize FR d (NW d n w 3).toNatClampNeg = x3
          generalize FR d (NW d n w 4).toNatClampNeg = x4
          revert x3 x4
          decide
      · intro y
        have y0 : (! FR d (NW d n w 3).toNatClampNeg) = true := y.2 0 (by decide)
        have y1 : (! FR d (NW d n w 4).toNatClampNeg) = true := y.2 1 (by decide)
        simp only [Bool.not_eq_true'] at y0 y1 ⊢
        simp [y0, y1]
    · rw [fr_16 h hn hA]
      simp only [kX]
      have hl : (nwl 16).length = 2 := by decide
      rw [hl] at wn ⊢
      have w3 : FR d' (NW d n w 3).toNatClampNeg = FR d (NW d n w 3).toNatClampNeg := frc 3 (wn 0 (by decide))
      rw [w3]
      have w4 : FR d' (NW d n w 4).toNatClampNeg = FR d (NW d n w 4).toNatClampNeg := frc 4 (wn 1 (by decide))
      rw [w4]
      constructor
      · intro y
        refine ⟨by decide, fun m hm => ?_⟩
        have hc : m = 0 ∨ m = 1 := by omega
        rcases hc with rfl | rfl
        · show (! FR d (NW d n w 3).toNatClampNeg) = true
          revert y
          generalize FR d (NW d n w 3).toNatClampNeg = x3
          generalize FR d (NW d n w 4).toNatClampNeg = x4
          revert x3 x4
          decide
        · show (! FR d (NW d n w 4).toNatClampNeg) = true
          revert y
          generalize FR d (NW d n w 3).toNatClampNeg = x3
          generalize FR d (NW d n w 4).toNatClampNeg = x4
          revert x3 x4
          decide
      · intro y
        have y0 : (! FR d (NW d n w 3).toNatClampNeg) = true := y.2 0 (by decide)
        have y1 : (! FR d (NW d n w 4).toNatClampNeg) = true := y.2 1 (by decide)
        simp only [Bool.not_eq_true'] at y0 y1 ⊢
        simp [y0, y1]
    · rw [fr_17 h hn hA]
      simp only [kX]
      have hl : (nwl 17).length = 2 := by decide
      rw [hl] at wn ⊢
      have w3 : FR d' (NW d n w 3).toNatClampNeg = FR d (NW d n w 3).toNatClampNeg := frc 3 (wn 0 (by decide))
      rw [w3]
      have w4 : FR d' (NW d n w 4).toNatClampNeg = FR d (NW d n w 4).toNatClampNeg := frc 4 (wn 1 (by decide))
      rw [w4]
      constructor
      · intro y
        refine ⟨by decide, fun m hm => ?_⟩
        have hc : m = 0 ∨ m = 1 := by omega
        rcases hc with rfl | rfl
        · show (! FR d (NW d n w 3).toNatClampNeg) = true
          revert y
          generalize FR d (NW d n w 3).toNatClampNeg = x3
          generalize FR d (NW d n w 4).toNatClampNeg = x4
          revert x3 x4
          decide
        · show (! FR d (NW d n w 4).toNatClampNeg) = true
          revert y
          generalize FR d (NW d n w 3).toNatClampNeg = x3
          generalize FR d (NW d n w 4).toNatClampNeg = x4
          revert x3 x4
          decide
      · intro y
        have y0 : (! FR d (NW d n w 3).toNatClampNeg) = true := y.2 0 (by decide)
        have y1 : (! FR d (NW d n w 4).toNatClampNeg) = true := y.2 1 (by decide)
        simp only [Bool.not_eq_true'] at y0 y1 ⊢
        simp [y0, y1]
    · rw [fr_18 h hn hA]
      simp only [kX]
      have hl : (nwl 18).length = 2 := by decide
      rw [hl] at wn ⊢
      have w3 : FR d' (NW d n w 3).toNatClampNeg = FR d (NW d n w 3).toNatClampNeg := frc 3 (wn 0 (by decide))
      rw [w3]
      have w4 : FR d' (NW d n w 4).toNatClampNeg = FR d (NW d n w 4).toNatClampNeg := frc 4 (wn 1 (by decide))
      rw [w4]
      constructor
      · intro y
        refine ⟨by decide, fun m hm => ?_⟩
        have hc : m = 0 ∨ m = 1 := by omega
        rcases hc with rfl | rfl
        · show (! FR d (NW d n w 3).toNatClampNeg) = true
          revert y
          generalize FR d (NW d n w 3).toNatClampNeg = x3
          generalize FR d (NW d n w 4).toNatClampNeg = x4
          revert x3 x4
          decide
        · show (! FR d (NW d n w 4).toNatClampNeg) = true
          revert y
          generalize FR d (NW d n w 3).toNatClampNeg = x3
          generalize FR d (NW d n w 4).toNatClampNeg = x4
          revert x3 x4
          decide
      · intro y
        have y0 : (! FR d (NW d n w 3).toNatClampNeg) = true := y.2 0 (by decide)
        have y1 : (! FR d (NW d n w 4).toNatClampNeg) = true := y.2 1 (by decide)
        simp only [Bool.not_eq_true'] at y0 y1 ⊢
        simp [y0, y1]
    · rw [fr_19 h hn hA]
      simp only [kX]
      have hl : (nwl 19).length = 2 := by decide
      rw [hl] at wn ⊢
      have w3 : FR d' (NW d n w 3).toNatClampNeg = FR d (NW d n w 3).toNatClampNeg := frc 3 (wn 0 (by decide))
      rw [w3]
      have w4 : FR d' (NW d n w 4).toNatClampNeg = FR d (NW d n w 4).toNatClampNeg := frc 4 (wn 1 (by decide))
      rw [w4]
      constructor
      · intro y
        refine ⟨by decide, fun m hm => ?_⟩
        have hc : m = 0 ∨ m = 1 := by omega
        rcases hc with rfl | rfl
        · show (! FR d (NW d n w 3).toNatClampNeg) = true
          revert y
          generalize FR d (NW d n w 3).toNatClampNeg = x3
          generalize FR d (NW d n w 4).toNatClampNeg = x4
          revert x3 x4
          decide
        · show (! FR d (NW d n w 4).toNatClampNeg) = true
          revert y
          generalize FR d (NW d n w 3).toNatClampNeg = x3
          generalize FR d (NW d n w 4).toNatClampNeg = x4
          revert x3 x4
          decide
      · intro y
        have y0 : (! FR d (NW d n w 3).toNatClampNeg) = true := y.2 0 (by decide)
        have y1 : (! FR d (NW d n w 4).toNatClampNeg) = true := y.2 1 (by decide)
        simp only [Bool.not_eq_true'] at y0 y1 ⊢
        simp [y0, y1]
    · rw [fr_20 h hn hA]
      simp only [kX]
      have hl : (nwl 20).length = 2 := by decide
      rw [hl] at wn ⊢
      have w3 : FR d' (NW d n w 3).toNatClampNeg = FR d (NW d n w 3).toNatClampNeg := frc 3 (wn 0 (by decide))
      rw [w3]
      have w4 : FR d' (NW d n w 4).toNatClampNeg = FR d (NW d n w 4).toNatClampNeg := frc 4 (wn 1 (by decide))
      rw [w4]
      constructor
      · intro y
        refine ⟨by decide, fun m hm => ?_⟩
        have hc : m = 0 ∨ m = 1 := by omega
        rcases hc with rfl | rfl
        · show (! FR d (NW d n w 3).toNatClampNeg) = true
          revert y
          generalize FR d (NW d n w 3).toNatClampNeg = x3
          generalize FR d (NW d n w 4).toNatClampNeg = x4
          revert x3 x4
          decide
        · show (! FR d (NW d n w 4).toNatClampNeg) = true
          revert y
          generalize FR d (NW d n w 3).toNatClampNeg = x3
          generalize FR d (NW d n w 4).toNatClampNeg = x4
          revert x3 x4
          decide
      · intro y
        have y0 : (! FR d (NW d n w 3).toNatClampNeg) = true := y.2 0 (by decide)
        have y1 : (! FR d (NW d n w 4).toNatClampNeg) = true := y.2 1 (by decide)
        simp only [Bool.not_eq_true'] at y0 y1 ⊢
        simp [y0, y1]
    · rw [fr_21 h hn hA]
      simp only [kX]
      have hl : (nwl 21).length = 1 := by decide
      rw [hl] at wn ⊢
      have w3 : FR d' (NW d n w 3).toNatClampNeg = FR d (NW d n w 3).toNatClampNeg := frc 3 (wn 0 (by decide))
      rw [w3]
      constructor
      · intro y
        refine ⟨by decide, fun m hm => ?_⟩
        have hc : m = 0 := by omega
        subst hc
        · show (! FR d (NW d n w 3).toNatClampNeg) = true
          revert y
          generalize FR d (NW d n w 3).toNatClampNeg = x3
          revert x3
          decide
      · intro y
        have y0 : (! FR d (NW d n w 3).toNatClampNeg) = true := y.2 0 (by decide)
        simp only [Bool.not_eq_true'] at y0 ⊢
        simp [y0]
    · rw [fr_22 h hn hA]
      simp only [kX]
      have hl : (nwl 22).length = 1 := by decide
      rw [hl] at wn ⊢
      have w3 : FR d' (NW d n w 3).toNatClampNeg = FR d (NW d n w 3).toNatClampNeg := frc 3 (wn 0 (by decide))
      rw [w3]
      constructor
      · intro y
        refine ⟨by decide, fun m hm => ?_⟩
        have hc : m = 0 := by omega
        subst hc
        · show (! FR d (NW d n w 3).toNatClampNeg) = true
          revert y
          generalize FR d (NW d n w 3).toNatClampNeg = x3
          revert x3
          decide
      · intro y
        have y0 : (! FR d (NW d n w 3).toNatClampNeg) = true := y.2 0 (by decide)
        simp only [Bool.not_eq_true'] at y0 ⊢
        simp [y0]
    · rw [fr_23 h hn hA]
      simp only [kX]
      have hl : (nwl 23).length = 1 := by decide
      rw [hl] at wn ⊢
      have w3 : FR d' (NW d n w 3).toNatClampNeg = FR d (NW d n w 3).toNatClampNeg := frc 3 (wn 0 (by decide))
      rw [w3]
      constructor
      · intro y
        refine ⟨by decide, fun m hm => ?_⟩
        have hc : m = 0 := by omega
        subst hc
        · show (! FR d (NW d n w 3).toNatClampNeg) = true
          revert y
          generalize FR d (NW d n w 3).toNatClampNeg = x3
          revert x3
          decide
      · intro y
        have y0 : (! FR d (NW d n w 3).toNatClampNeg) = true := y.2 0 (by decide)
        simp only [Bool.not_eq_true'] at y0 ⊢
        simp [y0]
    · rw [fr_24 h hn hA]
      simp only [kX]
      have hl : (nwl 24).length = 3 := by decide
      rw [hl] at wn ⊢
      have w3 : FR d' (NW d n w 3).toNatClampNeg = FR d (NW d n w 3).toNatClampNeg := frc 3 (wn 0 (by decide))
      rw [w3]
      have w4 : FR d' (NW d n w 4).toNatClampNeg = FR d (NW d n w 4).toNatClampNeg := frc 4 (wn 1 (by decide))
      rw [w4]
      have w5 : FR d' (NW d n w 5).toNatClampNeg = FR d (NW d n w 5).toNatClampNeg := frc 5 (wn 2 (by decide))
      rw [w5]
      constructor
      · intro y
        refine ⟨by decide, fun m hm => ?_⟩
        have hc : m = 0 ∨ m = 1 ∨ m = 2 := by omega
        rcases hc with rfl | rfl | rfl
        · show (! FR d (NW d n w 3).toNatClampNeg) = true
          revert y
          generalize FR d (NW d n w 3).toNatClampNeg = x3
          generalize FR d (NW d n w 4).toNatClampNeg = x4
          generalize FR d (NW d n w 5).toNatClampNeg = x5
          revert x3 x4 x5
          decide
        · show (! FR d (NW d n w 4).toNatClampNeg) = true
          revert y
          generalize FR d (NW d n w 3).toNatClampNeg = x3
          generalize FR d (NW d n w 4).toNatClampNeg = x4
          generalize FR d (NW d n w 5).toNatClampNeg = x5
          revert x3 x4 x5
          decide
        · show (! FR d (NW d n w 5).toNatClampNeg) = true
          revert y
          generalize FR d (NW d n w 3).toNatClampNeg = x3
          generalize FR d (NW d n w 4).toNatClampNeg = x4
          generalize FR d (NW d n w 5).toNatClampNeg = x5
          revert x3 x4 x5
          decide
      · intro y
        have y0 : (! FR d (NW d n w 3).toNatClampNeg) = true := y.2 0 (by decide)
        have y1 : (! FR d (NW d n w 4).toNatClampNeg) = true := y.2 1 (by decide)
        have y2 : (! FR d (NW d n w 5).toNatClampNeg) = true := y.2 2 (by decide)
        simp only [Bool.not_eq_true'] at y0 y1 y2 ⊢
        simp [y0, y1, y2]
    · rw [fr_25 h hn hA]
      simp only [kX]
      have hl : (nwl 25).length = 2 := by decide
      rw [hl] at wn ⊢
      have w3 : FR d' (NW d n w 3).toNatClampNeg = FR d (NW d n w 3).toNatClampNeg := frc 3 (wn 0 (by decide))
      rw [w3]
      have w4 : FR d' (NW d n w 4).toNatClampNeg = FR d (NW d n w 4).toNatClampNeg := frc 4 (wn 1 (by decide))
      rw [w4]
      constructor
      · intro y
        refine ⟨by decide, fun m hm => ?_⟩
        have hc : m = 0 ∨ m = 1 := by omega
        rcases hc with rfl | rfl
        · show (! FR d (NW d n w 3).toNatClampNeg) = true
          revert y
          generalize FR d (NW d n w 3).toNatClampNeg = x3
          generalize FR d (NW d n w 4).toNatClampNeg = x4
          revert x3 x4
          decide
        · show (! FR d (NW d n w 4).toNatClampNeg) = true
          revert y
          generalize FR d (NW d n w 3).toNatClampNeg = x3
          generalize FR d (NW d n w 4).toNatClampNeg = x4
          revert x3 x4
          decide
      · intro y
        have y0 : (! FR d (NW d n w 3).toNatClampNeg) = true := y.2 0 (by decide)
        have y1 : (! FR d (NW d n w 4).toNatClampNeg) = true := y.2 1 (by decide)
        simp only [Bool.not_eq_true'] at y0 y1 ⊢
        simp [y0, y1]
    · rw [fr_26 h hn hA]
      simp only [kX]
      have hl : (nwl 26).length = 3 := by decide
      rw [hl] at wn ⊢
      have w3 : FR d' (NW d n w 3).toNatClampNeg = FR d (NW d n w 3).toNatClampNeg := frc 3 (wn 0 (by decide))
      rw [w3]
      have w4 : FR d' (NW d n w 4).toNatClampNeg = FR d (NW d n w 4).toNatClampNeg := frc 4 (wn 1 (by decide))
      rw [w4]
      have w5 : FR d' (NW d n w 5).toNatClampNeg = FR d (NW d n w 5).toNatClampNeg := frc 5 (wn 2 (by decide))
      rw [w5]
      constructor
      · intro y
        refine ⟨by decide, fun m hm => ?_⟩
        have hc : m = 0 ∨ m = 1 ∨ m = 2 := by omega
        rcases hc with rfl | rfl | rfl
        · show (! FR d (NW d n w 3).toNatClampNeg) = true
          revert y
          generalize FR d (NW d n w 3).toNatClampNeg = x3
          generalize FR d (NW d n w 4).toNatClampNeg = x4
          generalize FR d (NW d n w 5).toNatClampNeg = x5
          revert x3 x4 x5
          decide
        · show (! FR d (NW d n w 4).toNatClampNeg) = true
          revert y
          generalize FR d (NW d n w 3).toNatClampNeg = x3
          generalize FR d (NW d n w 4).toNatClampNeg = x4
          generalize FR d (NW d n w 5).toNatClampNeg = x5
          revert x3 x4 x5
          decide
        · show (! FR d (NW d n w 5).toNatClampNeg) = true
          revert y
          generalize FR d (NW d n w 3).toNatClampNeg = x3
          generalize FR d (NW d n w 4).toNatClampNeg = x4
          generalize FR d (NW d n w 5).toNatClampNeg = x5
          revert x3 x4 x5
          decide
      · intro y
        have y0 : (! FR d (NW d n w 3).toNatClampNeg) = true := y.2 0 (by decide)
        have y1 : (! FR d (NW d n w 4).toNatClampNeg) = true := y.2 1 (by decide)
        have y2 : (! FR d (NW d n w 5).toNatClampNeg) = true := y.2 2 (by decide)
        simp only [Bool.not_eq_true'] at y0 y1 y2 ⊢
        simp [y0, y1, y2]
