/-! X: the draft of a line that is not faulty (printed by wip/whole/pure/drafts.py) -/
/-- the words that are nodes -/
def nwl (κ : Nat) : List Nat := if κ ≤ 3 then [] else if κ ≤ 6 then [3] else if κ ≤ 20 then [3, 4] else if κ ≤ 23 then [3] else if κ = 24 then [3, 4, 5] else if κ = 25 then [3, 4] else if κ = 26 then [3, 4, 5] else if κ ≤ 28 then [3, 4] else [2]
def s0c (d : HI) (n w : Nat) (x : Int32) : Prop := x = nI (4 + sc d (SW d n w 4).toNatClampNeg) ∧ LTR d w 2 = 1656889 ∨ x = NU d w 3 ∧ ¬ LTR d w 2 = 1656889
def DF (d : HI) (n w κ : Nat) (hx : HI) : Prop :=
  hx 10 2 = NU d w 0 ∧ hx 10 3 = nI κ ∧ (κ = 0 → s0c d n w (hx 10 4)) ∧ (1 ≤ κ → κ ≤ 28 → hx 10 4 = scX d n w 2) ∧ hx 10 7 = nI (nwl κ).length ∧ (∀ i, i < (nwl κ).length → hx 11 i = NW d n w ((nwl κ).getD i 0) ∧ hx 12 i = bI (TN d w ((nwl κ).getD i 0))) ∧ (κ = 3 → hx 10 9 = NU d w 3) ∧ (κ = 21 → hx 10 9 = NU d w 5)
theorem DF_1 {d hx : HI} {n w : Nat} (h2 : hx 10 2 = NU d w 0) (h3 : hx 10 3 = nI 1) (h7 : hx 10 7 = nI 0) : DF d n w 1 (zX_1 d n w hx) := by
  unfold zX_1
  refine ⟨?_, ?_, fun q => absurd q (by decide), fun q1 q2 => ?_, ?_, fun i hi => ?_, fun q => ?_, fun q => ?_⟩
  · simp (decide := true) only [u2_s, u2_c, u2_j, h2, h3, h7]
  · simp (decide := true) only [u2_s, u2_c, u2_j, h2, h3, h7]
  · first | exact absurd q2 (by decide) | (simp (decide := true) only [u2_s, u2_c, u2_j, h2, h3, h7])
  · first | (simp (decide := true) only [u2_s, u2_c, u2_j, h2, h3, h7]; done) | (simp (decide := true) only [u2_s, u2_c, u2_j, h2, h3, h7]; rfl) | exact h7
  · exact absurd hi (Nat.not_lt_zero i)
  · exact absurd q (by decide)
  · exact absurd q (by decide)
theorem DF_2 {d hx : HI} {n w : Nat} (h2 : hx 10 2 = NU d w 0) (h3 : hx 10 3 = nI 2) (h7 : hx 10 7 = nI 0) : DF d n w 2 (zX_2 d n w hx) := by
  unfold zX_2
  refine ⟨?_, ?_, fun q => absurd q (by decide), fun q1 q2 => ?_, ?_, fun i hi => ?_, fun q => ?_, fun q => ?_⟩
  · simp (decide := true) only [u2_s, u2_c, u2_j, h2, h3, h7]
  · simp (decide := true) only [u2_s, u2_c, u2_j, h2, h3, h7]
  · first | exact absurd q2 (by decide) | (simp (decide := true) only [u2_s, u2_c, u2_j, h2, h3, h7])
  · first | (simp (decide := true) only [u2_s, u2_c, u2_j, h2, h3, h7]; done) | (simp (decide := true) only [u2_s, u2_c, u2_j, h2, h3, h7]; rfl) | exact h7
  · exact absurd hi (Nat.not_lt_zero i)
  · exact absurd q (by decide)
  · exact absurd q (by decide)
theorem DF_3 {d hx : HI} {n w : Nat} (h2 : hx 10 2 = NU d w 0) (h3 : hx 10 3 = nI 3) (h7 : hx 10 7 = nI 0) : DF d n w 3 (zX_3 d n w hx) := by
  unfold zX_3 nmX
  refine ⟨?_, ?_, fun q => absurd q (by decide), fun q1 q2 => ?_, ?_, fun i hi => ?_, fun q => ?_, fun q => ?_⟩
  · simp (decide := true) only [u2_s, u2_c, u2_j, h2, h3, h7]
  · simp (decide := true) only [u2_s, u2_c, u2_j, h2, h3, h7]
  · first | exact absurd q2 (by decide) | (simp (decide := true) only [u2_s, u2_c, u2_j, h2, h3, h7])
  · first | (simp (decide := true) only [u2_s, u2_c, u2_j, h2, h3, h7]; done) | (simp (decide := true) only [u2_s, u2_c, u2_j, h2, h3, h7]; rfl) | exact h7
  · exact absurd hi (Nat.not_lt_zero i)
  · simp (decide := true) only [u2_s]
  · exact absurd q (by decide)
theorem DF_4 {d hx : HI} {n w : Nat} (h2 : hx 10 2 = NU d w 0) (h3 : hx 10 3 = nI 4) (h7 : hx 10 7 = nI 0) : DF d n w 4 (zX_4 d n w hx) := by
  unfold zX_4 ndX
  refine ⟨?_, ?_, fun q => absurd q (by decide), fun q1 q2 => ?_, ?_, fun i hi => ?_, fun q => ?_, fun q => ?_⟩
  · simp (decide := true) only [u2_s, u2_c, u2_j, h2, h3, h7]
  · simp (decide := true) only [u2_s, u2_c, u2_j, h2, h3, h7]
  · first | exact absurd q2 (by decide) | (simp (decide := true) only [u2_s, u2_c, u2_j, h2, h3, h7])
  · first | (simp (decide := true) only [u2_s, u2_c, u2_j, h2, h3, h7]; done) | (simp (decide := true) only [u2_s, u2_c, u2_j, h2, h3, h7]; rfl) | exact h7
  · have hl : (nwl 4).length = 1 := by decide
    rw [hl] at hi
    have hc : i = 0 := by omega
    subst hc
    · constructor
      · simp (decide := true) only [u2_s, u2_c, u2_j]; rfl
      · simp (decide := true) only [u2_s, u2_c, u2_j]; rfl
  · exact absurd q (by decide)
  · exact absurd q (by decide)
theorem DF_5 {d hx : HI} {n w : Nat} (h2 : hx 10 2 = NU d w 0) (h3 : hx 10 3 = nI 5) (h7 : hx 10 7 = nI 0) : DF d n w 5 (zX_5 d n w hx) := by
  unfold zX_5 ndX
  refine ⟨?_, ?_, fun q => absurd q (by decide), fun q1 q2 => ?_, ?_, fun i hi => ?_, fun q => ?_, fun q => ?_⟩
  · simp (decide := true) only [u2_s, u2_c, u2_j, h2, h3, h7]
  · simp (decide := true) only [u2_s, u2_c, u2_j, h2, h3, h7]
  · first | exact absurd q2 (by decide) | (simp (decide := true) only [u2_s, u2_c, u2_j, h2, h3, h7])
  · first | (simp (decide := true) only [u2_s, u2_c, u2_j, h2, h3, h7]; done) | (simp (decide := true) only [u2_s, u2_c, u2_j, h2, h3, h7]; rfl) | exact h7
  · have hl : (nwl 5).length = 1 := by decide
    rw [hl] at hi
    have hc : i = 0 := by omega
    subst hc
    · constructor
      · simp (decide := true) only [u2_s, u2_c, u2_j]; rfl
      · simp (decide := true) only [u2_s, u2_c, u2_j]; rfl
  · exact absurd q (by decide)
  · exact absurd q (by decide)
theorem DF_6 {d hx : HI} {n w : Nat} (h2 : hx 10 2 = NU d w 0) (h3 : hx 10 3 = nI 6) (h7 : hx 10 7 = nI 0) : DF d n w 6 (zX_6 d n w hx) := by
  unfold zX_6 ndX
  refine ⟨?_, ?_, fun q => absurd q (by decide), fun q1 q2 => ?_, ?_, fun i hi => ?_, fun q => ?_, fun q => ?_⟩
  · simp (decide := true) only [u2_s, u2_c, u2_j, h2, h3, h7]
  · simp (decide := true) only [u2_s, u2_c, u2_j, h2, h3, h7]
  · first | exact absurd q2 (by decide) | (simp (decide := true) only [u2_s, u2_c, u2_j, h2, h3, h7])
  · first | (simp (decide := true) only [u2_s, u2_c, u2_j, h2, h3, h7]; done) | (simp (decide := true) only [u2_s, u2_c, u2_j, h2, h3, h7]; rfl) | exact h7
  · have hl : (nwl 6).length = 1 := by decide
    rw [hl] at hi
    have hc : i = 0 := by omega
    subst hc
    · constructor
      · simp (decide := true) only [u2_s, u2_c, u2_j]; rfl
      · simp (decide := true) only [u2_s, u2_c, u2_j]; rfl
  · exact absurd q (by decide)
  · exact absurd q (by decide)
theorem DF_7 {d hx : HI} {n w : Nat} (h2 : hx 10 2 = NU d w 0) (h3 : hx 10 3 = nI 7) (h7 : hx 10 7 = nI 0) : DF d n w 7 (zX_7 d n w hx) := by
  unfold zX_7 ndX
  refine ⟨?_, ?_, fun q => absurd q (by decide), fun q1 q2 => ?_, ?_, fun i hi => ?_, fun q => ?_, fun q => ?_⟩
  · simp (decide := true) only [u2_s, u2_c, u2_j, h2, h3, h7]
  · simp (decide := true) only [u2_s, u2_c, u2_j, h2, h3, h7]
  · first | exact absurd q2 (by decide) | (simp (decide := true) only [u2_s, u2_c, u2_j, h2, h3, h7])
  · first | (simp (decide := true) only [u2_s, u2_c, u2_j, h2, h3, h7]; done) | (simp (decide := true) only [u2_s, u2_c, u2_j, h2, h3, h7]; rfl) | exact h7
  · have hl : (nwl 7).length = 2 := by decide
    rw [hl] at hi
    have hc : i = 0 ∨ i = 1 := by omega
    rcases hc with rfl | rfl
    · constructor
      · simp (decide := true) only [u2_s, u2_c, u2_j]; rfl
      · simp (decide := true) only [u2_s, u2_c, u2_j]; rfl
    · constructor
      · simp (decide := true) only [u2_s, u2_c, u2_j]; rfl
      · simp (decide := true) only [u2_s, u2_c, u2_j]; rfl
  · exact absurd q (by decide)
  · exact absurd q (by decide)
theorem DF_8 {d hx : HI} {n w : Nat} (h2 : hx 10 2 = NU d w 0) (h3 : hx 10 3 = nI 8) (h7 : hx 10 7 = nI 0) : DF d n w 8 (zX_8 d n w hx) := by
  unfold zX_8 ndX
  refine ⟨?_, ?_, fun q => absurd q (by decide), fun q1 q2 => ?_, ?_, fun i hi => ?_, fun q => ?_, fun q => ?_⟩
  · simp (decide := true) only [u2_s, u2_c, u2_j, h2, h3, h7]
  · simp (decide := true) only [u2_s, u2_c, u2_j, h2, h3, h7]
  · first | exact absurd q2 (by decide) | (simp (decide := true) only [u2_s, u2_c, u2_j, h2, h3, h7])
  · first | (simp (decide := true) only [u2_s, u2_c, u2_j, h2, h3, h7]; done) | (simp (decide := true) only [u2_s, u2_c, u2_j, h2, h3, h7]; rfl) | exact h7
  · have hl : (nwl 8).length = 2 := by decide
    rw [hl] at hi
    have hc : i = 0 ∨ i = 1 := by omega
    rcases hc with rfl | rfl
    · constructor
      · simp (decide := true) only [u2_s, u2_c, u2_j]; rfl
      · simp (decide := true) only [u2_s, u2_c, u2_j]; rfl
    · constructor
      · simp (decide := true) only [u2_s, u2_c, u2_j]; rfl
      · simp (decide := true) only [u2_s, u2_c, u2_j]; rfl
  · exact absurd q (by decide)
  · exact absurd q (by decide)
theorem DF_9 {d hx : HI} {n w : Nat} (h2 : hx 10 2 = NU d w 0) (h3 : hx 10 3 = nI 9) (h7 : hx 10 7 = nI 0) : DF d n w 9 (zX_9 d n w hx) := by
  unfold zX_9 ndX
  refine ⟨?_, ?_, fun q => absurd q (by decide), fun q1 q2 => ?_, ?_, fun i hi => ?_, fun q => ?_, fun q => ?_⟩
  · simp (decide := true) only [u2_s, u2_c, u2_j, h2, h3, h7]
  · simp (decide := true) only [u2_s, u2_c, u2_j, h2, h3, h7]
  · first | exact absurd q2 (by decide) | (simp (decide := true) only [u2_s, u2_c, u2_j, h2, h3, h7])
  · first | (simp (decide := true) only [u2_s, u2_c, u2_j, h2, h3, h7]; done) | (simp (decide := true) only [u2_s, u2_c, u2_j, h2, h3, h7]; rfl) | exact h7
  · have hl : (nwl 9).length = 2 := by decide
    rw [hl] at hi
    have hc : i = 0 ∨ i = 1 := by omega
    rcases hc with rfl | rfl
    · constructor
      · simp (decide := true) only [u2_s, u2_c, u2_j]; rfl
      · simp (decide := true) only [u2_s, u2_c, u2_j]; rfl
    · constructor
      · simp (decide := true) only [u2_s, u2_c, u2_j]; rfl
      · simp (decide := true) only [u2_s, u2_c, u2_j]; rfl
  · exact absurd q (by decide)
  · exact absurd q (by decide)
theorem DF_10 {d hx : HI} {n w : Nat} (h2 : hx 10 2 = NU d w 0) (h3 : hx 10 3 = nI 10) (h7 : hx 10 7 = nI 0) : DF d n w 10 (zX_10 d n w hx) := by
  unfold zX_10 ndX
  refine ⟨?_, ?_, fun q => absurd q (by decide), fun q1 q2 => ?_, ?_, fun i hi => ?_, fun q => ?_, fun q => ?_⟩
  · simp (decide := true) only [u2_s, u2_c, u2_j, h2, h3, h7]
  · simp (decide := true) only [u2_s, u2_c, u2_j, h2, h3, h7]
  · first | exact absurd q2 (by decide) | (simp (decide := true) only [u2_s, u2_c, u2_j, h2, h3, h7])
  · first | (simp (decide := true) only [u2_s, u2_c, u2_j, h2, h3, h7]; done) | (simp (decide := true) only [u2_s, u2_c, u2_j, h2, h3, h7]; rfl) | exact h7
  · have hl : (nwl 10).length = 2 := by decide
    rw [hl] at hi
    have hc : i = 0 ∨ i = 1 := by omega
    rcases hc with rfl | rfl
    · constructor
      · simp (decide := true) only [u2_s, u2_c, u2_j]; rfl
      · simp (decide := true) only [u2_s, u2_c, u2_j]; rfl
    · constructor
      · simp (decide := true) only [u2_s, u2_c, u2_j]; rfl
      · simp (decide := true) only [u2_s, u2_c, u2_j]; rfl
  · exact absurd q (by decide)
  · exact absurd q (by decide)
theorem DF_11 {d hx : HI} {n w : Nat} (h2 : hx 10 2 = NU d w 0) (h3 : hx 10 3 = nI 11) (h7 : hx 10 7 = nI 0) : DF d n w 11 (zX_11 d n w hx) := by
  unfold zX_11 ndX
  refine ⟨?_, ?_, fun q => absurd q (by decide), fun q1 q2 => ?_, ?_, fun i hi => ?_, fun q => ?_, fun q => ?_⟩
  · simp (decide := true) only [u2_s, u2_c, u2_j, h2, h3, h7]
  · simp (decide := true) only [u2_s, u2_c, u2_j, h2, h3, h7]
  · first | exact absurd q2 (by decide) | (simp (decide := true) only [u2_s, u2_c, u2_j, h2, h3, h7])
  · first | (simp (decide := true) only [u2_s, u2_c, u2_j, h2, h3, h7]; done) | (simp (decide := true) only [u2_s, u2_c, u2_j, h2, h3, h7]; rfl) | exact h7
  · have hl : (nwl 11).length = 2 := by decide
    rw [hl] at hi
    have hc : i = 0 ∨ i = 1 := by omega
    rcases hc with rfl | rfl
    · constructor
      · simp (decide := true) only [u2_s, u2_c, u2_j]; rfl
      · simp (decide := true) only [u2_s, u2_c, u2_j]; rfl
    · constructor
      · simp (decide := true) only [u2_s, u2_c, u2_j]; rfl
      · simp (decide := true) only [u2_s, u2_c, u2_j]; rfl
  · exact absurd q (by decide)
  · exact absurd q (by decide)
theorem DF_12 {d hx : HI} {n w : Nat} (h2 : hx 10 2 = NU d w 0) (h3 : hx 10 3 = nI 12) (h7 : hx 10 7 = nI 0) : DF d n w 12 (zX_12 d n w hx) := by
  unfold zX_12 ndX
  refine ⟨?_, ?_, fun q => absurd q (by decide), fun q1 q2 => ?_, ?_, fun i hi => ?_, fun q => ?_, fun q => ?_⟩
  · simp (decide := true) only [u2_s, u2_c, u2_j, h2, h3, h7]
  · simp (decide := true) only [u2_s, u2_c, u2_j, h2, h3, h7]
  · first | exact absurd q2 (by decide) | (simp (decide := true) only [u2_s, u2_c, u2_j, h2, h3, h7])
  · first | (simp (decide := true) only [u2_s, u2_c, u2_j, h2, h3, h7]; done) | (simp (decide := true) only [u2_s, u2_c, u2_j, h2, h3, h7]; rfl) | exact h7
  · have hl : (nwl 12).length = 2 := by decide
    rw [hl] at hi
    have hc : i = 0 ∨ i = 1 := by omega
    rcases hc with rfl | rfl
    · constructor
      · simp (decide := true) only [u2_s, u2_c, u2_j]; rfl
      · simp (decide := true) only [u2_s, u2_c, u2_j]; rfl
    · constructor
      · simp (decide := true) only [u2_s, u2_c, u2_j]; rfl
      · simp (decide := true) only [u2_s, u2_c, u2_j]; rfl
  · exact absurd q (by decide)
  · exact absurd q (by decide)
theorem DF_13 {d hx : HI} {n w : Nat} (h2 : hx 10 2 = NU d w 0) (h3 : hx 10 3 = nI 13) (h7 : hx 10 7 = nI 0) : DF d n w 13 (zX_13 d n w hx) := by
  unfold zX_13 ndX
  refine ⟨?_, ?_, fun q => absurd q (by decide), fun q1 q2 => ?_, ?_, fun i hi => ?_, fun q => ?_, fun q => ?_⟩
  · simp (decide := true) only [u2_s, u2_c, u2_j, h2, h3, h7]
  · simp (decide := true) only [u2_s, u2_c, u2_j, h2, h3, h7]
  · first | exact absurd q2 (by decide) | (simp (decide := true) only [u2_s, u2_c, u2_j, h2, h3, h7])
  · first | (simp (decide := true) only [u2_s, u2_c, u2_j, h2, h3, h7]; done) | (simp (decide := true) only [u2_s, u2_c, u2_j, h2, h3, h7]; rfl) | exact h7
  · have hl : (nwl 13).length = 2 := by decide
    rw [hl] at hi
    have hc : i = 0 ∨ i = 1 := by omega
    rcases hc with rfl | rfl
    · constructor
      · simp (decide := true) only [u2_s, u2_c, u2_j]; rfl
      · simp (decide := true) only [u2_s, u2_c, u2_j]; rfl
    · constructor
      · simp (decide := true) only [u2_s, u2_c, u2_j]; rfl
      · simp (decide := true) only [u2_s, u2_c, u2_j]; rfl
  · exact absurd q (by decide)
  · exact absurd q (by decide)
theorem DF_14 {d hx : HI} {n w : Nat} (h2 : hx 10 2 = NU d w 0) (h3 : hx 10 3 = nI 14) (h7 : hx 10 7 = nI 0) : DF d n w 14 (zX_14 d n w hx) := by
  unfold zX_14 ndX
  refine ⟨?_, ?_, fun q => absurd q (by decide), fun q1 q2 => ?_, ?_, fun i hi => ?_, fun q => ?_, fun q => ?_⟩
  · simp (decide := true) only [u2_s, u2_c, u2_j, h2, h3, h7]
  · simp (decide := true) only [u2_s, u2_c, u2_j, h2, h3, h7]
  · first | exact absurd q2 (by decide) | (simp (decide := true) only [u2_s, u2_c, u2_j, h2, h3, h7])
  · first | (simp (decide := true) only [u2_s, u2_c, u2_j, h2, h3, h7]; done) | (simp (decide := true) only [u2_s, u2_c, u2_j, h2, h3, h7]; rfl) | exact h7
  · have hl : (nwl 14).length = 2 := by decide
    rw [hl] at hi
    have hc : i = 0 ∨ i = 1 := by omega
    rcases hc with rfl | rfl
    · constructor
      · simp (decide := true) only [u2_s, u2_c, u2_j]; rfl
      · simp (decide := true) only [u2_s, u2_c, u2_j]; rfl
    · constructor
      · simp (decide := true) only [u2_s, u2_c, u2_j]; rfl
      · simp (decide := true) only [u2_s, u2_c, u2_j]; rfl
  · exact absurd q (by decide)
  · exact absurd q (by decide)
theorem DF_15 {d hx : HI} {n w : Nat} (h2 : hx 10 2 = NU d w 0) (h3 : hx 10 3 = nI 15) (h7 : hx 10 7 = nI 0) : DF d n w 15 (zX_15 d n w hx) := by
  unfold zX_15 ndX
  refine ⟨?_, ?_, fun q => absurd q (by decide), fun q1 q2 => ?_, ?_, fun i hi => ?_, fun q => ?_, fun q => ?_⟩
  · simp (decide := true) only [u2_s, u2_c, u2_j, h2, h3, h7]
  · simp (decide := true) only [u2_s, u2_c, u2_j, h2, h3, h7]
  · first | exact absurd q2 (by decide) | (simp (decide := true) only [u2_s, u2_c, u2_j, h2, h3, h7])
  · first | (simp (decide := true) only [u2_s, u2_c, u2_j, h2, h3, h7]; done) | (simp (decide := true) only [u2_s, u2_c, u2_j, h2, h3, h7]; rfl) | exact h7
  · have hl : (nwl 15).length = 2 := by decide
    rw [hl] at hi
    have hc : i = 0 ∨ i = 1 := by omega
    rcases hc with rfl | rfl
    · constructor
      · simp (decide := true) only [u2_s, u2_c, u2_j]; rfl
      · simp (decide := true) only [u2_s, u2_c, u2_j]; rfl
    · constructor
      · simp (decide := true) only [u2_s, u2_c, u2_j]; rfl
      · simp (decide := true) only [u2_s, u2_c, u2_j]; rfl
  · exact absurd q (by decide)
  · exact absurd q (by decide)
theorem DF_16 {d hx : HI} {n w : Nat} (h2 : hx 10 2 = NU d w 0) (h3 : hx 10 3 = nI 16) (h7 : hx 10 7 = nI 0) : DF d n w 16 (zX_16 d n w hx) := by
  unfold zX_16 ndX
  refine ⟨?_, ?_, fun q => absurd q (by decide), fun q1 q2 => ?_, ?_, fun i hi => ?_, fun q => ?_, fun q => ?_⟩
  · simp (decide := true) only [u2_s, u2_c, u2_j, h2, h3, h7]
  · simp (decide := true) only [u2_s, u2_c, u2_j, h2, h3, h7]
  · first | exact absurd q2 (by decide) | (simp (decide := true) only [u2_s, u2_c, u2_j, h2, h3, h7])
  · first | (simp (decide := true) only [u2_s, u2_c, u2_j, h2, h3, h7]; done) | (simp (decide := true) only [u2_s, u2_c, u2_j, h2, h3, h7]; rfl) | exact h7
  · have hl : (nwl 16).length = 2 := by decide
    rw [hl] at hi
    have hc : i = 0 ∨ i = 1 := by omega
    rcases hc with rfl | rfl
    · constructor
      · simp (decide := true) only [u2_s, u2_c, u2_j]; rfl
      · simp (decide := true) only [u2_s, u2_c, u2_j]; rfl
    · constructor
      · simp (decide := true) only [u2_s, u2_c, u2_j]; rfl
      · simp (decide := true) only [u2_s, u2_c, u2_j]; rfl
  · exact absurd q (by decide)
  · exact absurd q (by decide)
theorem DF_17 {d hx : HI} {n w : Nat} (h2 : hx 10 2 = NU d w 0) (h3 : hx 10 3 = nI 17) (h7 : hx 10 7 = nI 0) : DF d n w 17 (zX_17 d n w hx) := by
  unfold zX_17 ndX
  refine ⟨?_, ?_, fun q => absurd q (by decide), fun q1 q2 => ?_, ?_, fun i hi => ?_, fun q => ?_, fun q => ?_⟩
  · simp (decide := true) only [u2_s, u2_c, u2_j, h2, h3, h7]
  · simp (decide := true) only [u2_s, u2_c, u2_j, h2, h3, h7]
  · first | exact absurd q2 (by decide) | (simp (decide := true) only [u2_s, u2_c, u2_j, h2, h3, h7])
  · first | (simp (decide := true) only [u2_s, u2_c, u2_j, h2, h3, h7]; done) | (simp (decide := true) only [u2_s, u2_c, u2_j, h2, h3, h7]; rfl) | exact h7
  · have hl : (nwl 17).length = 2 := by decide
    rw [hl] at hi
    have hc : i = 0 ∨ i = 1 := by omega
    rcases hc with rfl | rfl
    · constructor
      · simp (decide := true) only [u2_s, u2_c, u2_j]; rfl
      · simp (decide := true) only [u2_s, u2_c, u2_j]; rfl
    · constructor
      · simp (decide := true) only [u2_s, u2_c, u2_j]; rfl
      · simp (decide := true) only [u2_s, u2_c, u2_j]; rfl
  · exact absurd q (by decide)
  · exact absurd q (by decide)
theorem DF_18 {d hx : HI} {n w : Nat} (h2 : hx 10 2 = NU d w 0) (h3 : hx 10 3 = nI 18) (h7 : hx 10 7 = nI 0) : DF d n w 18 (zX_18 d n w hx) := by
  unfold zX_18 ndX
  refine ⟨?_, ?_, fun q => absurd q (by decide), fun q1 q2 => ?_, ?_, fun i hi => ?_, fun q => ?_, fun q => ?_⟩
  · simp (decide := true) only [u2_s, u2_c, u2_j, h2, h3, h7]
  · simp (decide := true) only [u2_s, u2_c, u2_j, h2, h3, h7]
  · first | exact absurd q2 (by decide) | (simp (decide := true) only [u2_s, u2_c, u2_j, h2, h3, h7])
  · first | (simp (decide := true) only [u2_s, u2_c, u2_j, h2, h3, h7]; done) | (simp (decide := true) only [u2_s, u2_c, u2_j, h2, h3, h7]; rfl) | exact h7
  · have hl : (nwl 18).length = 2 := by decide
    rw [hl] at hi
    have hc : i = 0 ∨ i = 1 := by omega
    rcases hc with rfl | rfl
    · constructor
      · simp (decide := true) only [u2_s, u2_c, u2_j]; rfl
      · simp (decide := true) only [u2_s, u2_c, u2_j]; rfl
    · constructor
      · simp (decide := true) only [u2_s, u2_c, u2_j]; rfl
      · simp (decide := true) only [u2_s, u2_c, u2_j]; rfl
  · exact absurd q (by decide)
  · exact absurd q (by decide)
theorem DF_19 {d hx : HI} {n w : Nat} (h2 : hx 10 2 = NU d w 0) (h3 : hx 10 3 = nI 19) (h7 : hx 10 7 = nI 0) : DF d n w 19 (zX_19 d n w hx) := by
  unfold zX_19 ndX
  refine ⟨?_, ?_, fun q => absurd q (by decide), fun q1 q2 => ?_, ?_, fun i hi => ?_, fun q => ?_, fun q => ?_⟩
  · simp (decide := true) only [u2_s, u2_c, u2_j, h2, h3, h7]
  · simp (decide := true) only [u2_s, u2_c, u2_j, h2, h3, h7]
  · first | exact absurd q2 (by decide) | (simp (decide := true) only [u2_s, u2_c, u2_j, h2, h3, h7])
  · first | (simp (decide := true) only [u2_s, u2_c, u2_j, h2, h3, h7]; done) | (simp (decide := true) only [u2_s, u2_c, u2_j, h2, h3, h7]; rfl) | exact h7
  · have hl : (nwl 19).length = 2 := by decide
    rw [hl] at hi
    have hc : i = 0 ∨ i = 1 := by omega
    rcases hc with rfl | rfl
    · constructor
      · simp (decide := true) only [u2_s, u2_c, u2_j]; rfl
      · simp (decide := true) only [u2_s, u2_c, u2_j]; rfl
    · constructor
      · simp (decide := true) only [u2_s, u2_c, u2_j]; rfl
      · simp (decide := true) only [u2_s, u2_c, u2_j]; rfl
  · exact absurd q (by decide)
  · exact absurd q (by decide)
theorem DF_20 {d hx : HI} {n w : Nat} (h2 : hx 10 2 = NU d w 0) (h3 : hx 10 3 = nI 20) (h7 : hx 10 7 = nI 0) : DF d n w 20 (zX_20 d n w hx) := by
  unfold zX_20 ndX
  refine ⟨?_, ?_, fun q => absurd q (by decide), fun q1 q2 => ?_, ?_, fun i hi => ?_, fun q => ?_, fun q => ?_⟩
  · simp (decide := true) only [u2_s, u2_c, u2_j, h2, h3, h7]
  · simp (decide := true) only [u2_s, u2_c, u2_j, h2, h3, h7]
  · first | exact absurd q2 (by decide) | (simp (decide := true) only [u2_s, u2_c, u2_j, h2, h3, h7])
  · first | (simp (decide := true) only [u2_s, u2_c, u2_j, h2, h3, h7]; done) | (simp (decide := true) only [u2_s, u2_c, u2_j, h2, h3, h7]; rfl) | exact h7
  · have hl : (nwl 20).length = 2 := by decide
    rw [hl] at hi
    have hc : i = 0 ∨ i = 1 := by omega
    rcases hc with rfl | rfl
    · constructor
      · simp (decide := true) only [u2_s, u2_c, u2_j]; rfl
      · simp (decide := true) only [u2_s, u2_c, u2_j]; rfl
    · constructor
      · simp (decide := true) only [u2_s, u2_c, u2_j]; rfl
      · simp (decide := true) only [u2_s, u2_c, u2_j]; rfl
  · exact absurd q (by decide)
  · exact absurd q (by decide)
theorem DF_21 {d hx : HI} {n w : Nat} (h2 : hx 10 2 = NU d w 0) (h3 : hx 10 3 = nI 21) (h7 : hx 10 7 = nI 0) : DF d n w 21 (zX_21 d n w hx) := by
  unfold zX_21 ndX nmX
  refine ⟨?_, ?_, fun q => absurd q (by decide), fun q1 q2 => ?_, ?_, fun i hi => ?_, fun q => ?_, fun q => ?_⟩
  · simp (decide := true) only [u2_s, u2_c, u2_j, h2, h3, h7]
  · simp (decide := true) only [u2_s, u2_c, u2_j, h2, h3, h7]
  · first | exact absurd q2 (by decide) | (simp (decide := true) only [u2_s, u2_c, u2_j, h2, h3, h7])
  · first | (simp (decide := true) only [u2_s, u2_c, u2_j, h2, h3, h7]; done) | (simp (decide := true) only [u2_s, u2_c, u2_j, h2, h3, h7]; rfl) | exact h7
  · have hl : (nwl 21).length = 1 := by decide
    rw [hl] at hi
    have hc : i = 0 := by omega
    subst hc
    · constructor
      · simp (decide := true) only [u2_s, u2_c, u2_j]; rfl
      · simp (decide := true) only [u2_s, u2_c, u2_j]; rfl
  · exact absurd q (by decide)
  · simp (decide := true) only [u2_s]
theorem DF_22 {d hx : HI} {n w : Nat} (h2 : hx 10 2 = NU d w 0) (h3 : hx 10 3 = nI 22) (h7 : hx 10 7 = nI 0) : DF d n w 22 (zX_22 d n w hx) := by
  unfold zX_22 ndX nmX
  refine ⟨?_, ?_, fun q => absurd q (by decide), fun q1 q2 => ?_, ?_, fun i hi => ?_, fun q => ?_, fun q => ?_⟩
  · simp (decide := true) only [u2_s, u2_c, u2_j, h2, h3, h7]
  · simp (decide := true) only [u2_s, u2_c, u2_j, h2, h3, h7]
  · first | exact absurd q2 (by decide) | (simp (decide := true) only [u2_s, u2_c, u2_j, h2, h3, h7])
  · first | (simp (decide := true) only [u2_s, u2_c, u2_j, h2, h3, h7]; done) | (simp (decide := true) only [u2_s, u2_c, u2_j, h2, h3, h7]; rfl) | exact h7
  · have hl : (nwl 22).length = 1 := by decide
    rw [hl] at hi
    have hc : i = 0 := by omega
    subst hc
    · constructor
      · simp (decide := true) only [u2_s, u2_c, u2_j]; rfl
      · simp (decide := true) only [u2_s, u2_c, u2_j]; rfl
  · exact absurd q (by decide)
  · exact absurd q (by decide)
theorem DF_23 {d hx : HI} {n w : Nat} (h2 : hx 10 2 = NU d w 0) (h3 : hx 10 3 = nI 23) (h7 : hx 10 7 = nI 0) : DF d n w 23 (zX_23 d n w hx) := by
  unfold zX_23 ndX nmX
  refine ⟨?_, ?_, fun q => absurd q (by decide), fun q1 q2 => ?_, ?_, fun i hi => ?_, fun q => ?_, fun q => ?_⟩
  · simp (decide := true) only [u2_s, u2_c, u2_j, h2, h3, h7]
  · simp (decide := true) only [u2_s, u2_c, u2_j, h2, h3, h7]
  · first | exact absurd q2 (by decide) | (simp (decide := true) only [u2_s, u2_c, u2_j, h2, h3, h7])
  · first | (simp (decide := true) only [u2_s, u2_c, u2_j, h2, h3, h7]; done) | (simp (decide := true) only [u2_s, u2_c, u2_j, h2, h3, h7]; rfl) | exact h7
  · have hl : (nwl 23).length = 1 := by decide
    rw [hl] at hi
    have hc : i = 0 := by omega
    subst hc
    · constructor
      · simp (decide := true) only [u2_s, u2_c, u2_j]; rfl
      · simp (decide := true) only [u2_s, u2_c, u2_j]; rfl
  · exact absurd q (by decide)
  · exact absurd q (by decide)
theorem DF_24 {d hx : HI} {n w : Nat} (h2 : hx 10 2 = NU d w 0) (h3 : hx 10 3 = nI 24) (h7 : hx 10 7 = nI 0) : DF d n w 24 (zX_24 d n w hx) := by
  unfold zX_24 ndX
  refine ⟨?_, ?_, fun q => absurd q (by decide), fun q1 q2 => ?_, ?_, fun i hi => ?_, fun q => ?_, fun q => ?_⟩
  · simp (decide := true) only [u2_s, u2_c, u2_j, h2, h3, h7]
  · simp (decide := true) only [u2_s, u2_c, u2_j, h2, h3, h7]
  · first | exact absurd q2 (by decide) | (simp (decide := true) only [u2_s, u2_c, u2_j, h2, h3, h7])
  · first | (simp (decide := true) only [u2_s, u2_c, u2_j, h2, h3, h7]; done) | (simp (decide := true) only [u2_s, u2_c, u2_j, h2, h3, h7]; rfl) | exact h7
  · have hl : (nwl 24).length = 3 := by decide
    rw [hl] at hi
    have hc : i = 0 ∨ i = 1 ∨ i = 2 := by omega
    rcases hc with rfl | rfl | rfl
    · constructor
      · simp (decide := true) only [u2_s, u2_c, u2_j]; rfl
      · simp (decide := true) only [u2_s, u2_c, u2_j]; rfl
    · constructor
      · simp (decide := true) only [u2_s, u2_c, u2_j]; rfl
      · simp (decide := true) only [u2_s, u2_c, u2_j]; rfl
    · constructor
      · simp (decide := true) only [u2_s, u2_c, u2_j]; rfl
      · simp (decide := true) only [u2_s, u2_c, u2_j]; rfl
  · exact absurd q (by decide)
  · exact absurd q (by decide)
theorem DF_25 {d hx : HI} {n w : Nat} (h2 : hx 10 2 = NU d w 0) (h3 : hx 10 3 = nI 25) (h7 : hx 10 7 = nI 0) : DF d n w 25 (zX_25 d n w hx) := by
  unfold zX_25 ndX
  refine ⟨?_, ?_, fun q => absurd q (by decide), fun q1 q2 => ?_, ?_, fun i hi => ?_, fun q => ?_, fun q => ?_⟩
  · simp (decide := true) only [u2_s, u2_c, u2_j, h2, h3, h7]
  · simp (decide := true) only [u2_s, u2_c, u2_j, h2, h3, h7]
  · first | exact absurd q2 (by decide) | (simp (decide := true) only [u2_s, u2_c, u2_j, h2, h3, h7])
  · first | (simp (decide := true) only [u2_s, u2_c, u2_j, h2, h3, h7]; done) | (simp (decide := true) only [u2_s, u2_c, u2_j, h2, h3, h7]; rfl) | exact h7
  · have hl : (nwl 25).length = 2 := by decide
    rw [hl] at hi
    have hc : i = 0 ∨ i = 1 := by omega
    rcases hc with rfl | rfl
    · constructor
      · simp (decide := true) only [u2_s, u2_c, u2_j]; rfl
      · simp (decide := true) only [u2_s, u2_c, u2_j]; rfl
    · constructor
      · simp (decide := true) only [u2_s, u2_c, u2_j]; rfl
      · simp (decide := true) only [u2_s, u2_c, u2_j]; rfl
  · exact absurd q (by decide)
  · exact absurd q (by decide)
theorem DF_26 {d hx : HI} {n w : Nat} (h2 : hx 10 2 = NU d w 0) (h3 : hx 10 3 = nI 26) (h7 : hx 10 7 = nI 0) : DF d n w 26 (zX_26 d n w hx) := by
  unfold zX_26 ndX
  refine ⟨?_, ?_, fun q => absurd q (by decide), fun q1 q2 => ?_, ?_, fun i hi => ?_, fun q => ?_, fun q => ?_⟩
  · simp (decide := true) only [u2_s, u2_c, u2_j, h2, h3, h7]
  · simp (decide := true) only [u2_s, u2_c, u2_j, h2, h3, h7]
  · first | exact absurd q2 (by decide) | (simp (decide := true) only [u2_s, u2_c, u2_j, h2, h3, h7])
  · first | (simp (decide := true) only [u2_s, u2_c, u2_j, h2, h3, h7]; done) | (simp (decide := true) only [u2_s, u2_c, u2_j, h2, h3, h7]; rfl) | exact h7
  · have hl : (nwl 26).length = 3 := by decide
    rw [hl] at hi
    have hc : i = 0 ∨ i = 1 ∨ i = 2 := by omega
    rcases hc with rfl | rfl | rfl
    · constructor
      · simp (decide := true) only [u2_s, u2_c, u2_j]; rfl
      · simp (decide := true) only [u2_s, u2_c, u2_j]; rfl
    · constructor
      · simp (decide := true) only [u2_s, u2_c, u2_j]; rfl
      · simp (decide := true) only [u2_s, u2_c, u2_j]; rfl
    · constructor
      · simp (decide := true) only [u2_s, u2_c, u2_j]; rfl
      · simp (decide := true) only [u2_s, u2_c, u2_j]; rfl
  · exact absurd q (by decide)
  · exact absurd q (by decide)
theorem DF_27 {d hx : HI} {n w : Nat} (h2 : hx 10 2 = NU d w 0) (h3 : hx 10 3 = nI 27) (h7 : hx 10 7 = nI 0) : DF d n w 27 (zX_27 d n w hx) := by
  unfold zX_27 ndX
  refine ⟨?_, ?_, fun q => absurd q (by decide), fun q1 q2 => ?_, ?_, fun i hi => ?_, fun q => ?_, fun q => ?_⟩
  · simp (decide := true) only [u2_s, u2_c, u2_j, h2, h3, h7]
  · simp (decide := true) only [u2_s, u2_c, u2_j, h2, h3, h7]
  · first | exact absurd q2 (by decide) | (simp (decide := true) only [u2_s, u2_c, u2_j, h2, h3, h7])
  · first | (simp (decide := true) only [u2_s, u2_c, u2_j, h2, h3, h7]; done) | (simp (decide := true) only [u2_s, u2_c, u2_j, h2, h3, h7]; rfl) | exact h7
  · have hl : (nwl 27).length = 2 := by decide
    rw [hl] at hi
    have hc : i = 0 ∨ i = 1 := by omega
    rcases hc with rfl | rfl
    · constructor
      · simp (decide := true) only [u2_s, u2_c, u2_j]; rfl
      · simp (decide := true) only [u2_s, u2_c, u2_j]; rfl
    · constructor
      · simp (decide := true) only [u2_s, u2_c, u2_j]; rfl
      · simp (decide := true) only [u2_s, u2_c, u2_j]; rfl
  · exact absurd q (by decide)
  · exact absurd q (by decide)
theorem DF_28 {d hx : HI} {n w : Nat} (h2 : hx 10 2 = NU d w 0) (h3 : hx 10 3 = nI 28) (h7 : hx 10 7 = nI 0) : DF d n w 28 (zX_28 d n w hx) := by
  unfold zX_28 ndX
  refine ⟨?_, ?_, fun q => absurd q (by decide), fun q1 q2 => ?_, ?_, fun i hi => ?_, fun q => ?_, fun q => ?_⟩
  · simp (decide := true) only [u2_s, u2_c, u2_j, h2, h3, h7]
  · simp (decide := true) only [u2_s, u2_c, u2_j, h2, h3, h7]
  · first | exact absurd q2 (by decide) | (simp (decide := true) only [u2_s, u2_c, u2_j, h2, h3, h7])
  · first | (simp (decide := true) only [u2_s, u2_c, u2_j, h2, h3, h7]; done) | (simp (decide := true) only [u2_s, u2_c, u2_j, h2, h3, h7]; rfl) | exact h7
  · have hl : (nwl 28).length = 2 := by decide
    rw [hl] at hi
    have hc : i = 0 ∨ i = 1 := by omega
    rcases hc with rfl | rfl
    · constructor
      · simp (decide := true) only [u2_s, u2_c, u2_j]; rfl
      · simp (decide := true) only [u2_s, u2_c, u2_j]; rfl
    · constructor
      · simp (decide := true) only [u2_s, u2_c, u2_j]; rfl
      · simp (decide := true) only [u2_s, u2_c, u2_j]; rfl
  · exact absurd q (by decide)
  · exact absurd q (by decide)
theorem DF_29 {d hx : HI} {n w : Nat} (h2 : hx 10 2 = NU d w 0) (h3 : hx 10 3 = nI 29) (h7 : hx 10 7 = nI 0) : DF d n w 29 (zX_29 d n w hx) := by
  unfold zX_29 ndX
  refine ⟨?_, ?_, fun q => absurd q (by decide), fun q1 q2 => ?_, ?_, fun i hi => ?_, fun q => ?_, fun q => ?_⟩
  · simp (decide := true) only [u2_s, u2_c, u2_j, h2, h3, h7]
  · simp (decide := true) only [u2_s, u2_c, u2_j, h2, h3, h7]
  · first | exact absurd q2 (by decide) | (simp (decide := true) only [u2_s, u2_c, u2_j, h2, h3, h7])
  · first | (simp (decide := true) only [u2_s, u2_c, u2_j, h2, h3, h7]; done) | (simp (decide := true) only [u2_s, u2_c, u2_j, h2, h3, h7]; rfl) | exact h7
  · have hl : (nwl 29).length = 1 := by decide
    rw [hl] at hi
    have hc : i = 0 := by omega
    subst hc
    · constructor
      · simp (decide := true) only [u2_s, u2_c, u2_j]; rfl
      · simp (decide := true) only [u2_s, u2_c, u2_j]; rfl
  · exact absurd q (by decide)
  · exact absurd q (by decide)
theorem DF_30 {d hx : HI} {n w : Nat} (h2 : hx 10 2 = NU d w 0) (h3 : hx 10 3 = nI 30) (h7 : hx 10 7 = nI 0) : DF d n w 30 (zX_30 d n w hx) := by
  unfold zX_30 ndX
  refine ⟨?_, ?_, fun q => absurd q (by decide), fun q1 q2 => ?_, ?_, fun i hi => ?_, fun q => ?_, fun q => ?_⟩
  · simp (decide := true) only [u2_s, u2_c, u2_j, h2, h3, h7]
  · simp (decide := true) only [u2_s, u2_c, u2_j, h2, h3, h7]
  · first | exact absurd q2 (by decide) | (simp (decide := true) only [u2_s, u2_c, u2_j, h2, h3, h7])
  · first | (simp (decide := true) only [u2_s, u2_c, u2_j, h2, h3, h7]; done) | (simp (decide := true) only [u2_s, u2_c, u2_j, h2, h3, h7]; rfl) | exact h7
  · have hl : (nwl 30).length = 1 := by decide
    rw [hl] at hi
    have hc : i = 0 := by omega
    subst hc
    · constructor
      · simp (decide := true) only [u2_s, u2_c, u2_j]; rfl
      · simp (decide := true) only [u2_s, u2_c, u2_j]; rfl
  · exact absurd q (by decide)
  · exact absurd q (by decide)
theorem pX_faultOfLength {d hx : HI} {n w : Nat} {hl : HL} {Φ : Int32 → HI → HL → Prop} (hw : w ≤ 20) (hR : RX d hx n w) (due : Nat) (hd : due ≤ 9) (h : Φ (if w ≤ due then -1 else nI due) hx hl) : wpD_faultOfLength (nI due) hx hl Φ := by
  unfold wpD_faultOfLength wbD_faultOfLength_0
  rw [hR.2.1]
  refine pk_le w due (fun q => ?_) (fun q => ?_)
  · rw [if_pos q] at h; exact h
  · rw [if_neg (by omega)] at h; exact h
/-- what is known of X behind its look at the words -/
def PF (d : HI) (n w : Nat) (hx : HI) (r : Int32) (hx' : HI) : Prop :=
  RX d hx' n w ∧ FX hx hx' ∧ (((CKA d n w).all id = false ∧ r = nI (lr (CKA d n w) 0)) ∨ ((CKA d n w).all id = true ∧ DF d n w (KO d w).toNatClampNeg hx' ∧ r = if w ≤ (CKA d n w).length then -1 else nI (CKA d n w).length))
theorem pX_sortLine {d hx : HI} {n w : Nat} {hl : HL} {Φ : Int32 → HI → HL → Prop} (hT : TXw d w) (hW : WL d n) (hI : WI d n) (hR : RX d hx n w) (h2 : hx 10 2 = NU d w 0) (h3 : hx 10 3 = nI 0) (h7 : hx 10 7 = nI 0)
    (h : ∀ r hx', RX d hx' n w → FX hx hx' → (((CKs d n w).all id = false ∧ r = nI (lr (CKs d n w) 2)) ∨ ((CKs d n w).all id = true ∧ DF d n w 0 hx' ∧ r = if w ≤ 2 + (CKs d n w).length then -1 else nI (2 + (CKs d n w).length))) → Φ r hx' hl) : wpD_sortLineFault hx hl Φ := by
  have hn := hW.1
  unfold wpD_sortLineFault wbD_sortLineFault_0 wbD_sortLineFault_42
  have dfl : ∀ x, s0c d n w x → DF d n w 0 (u2 hx 10 4 x) := fun x hx0 => by
    refine ⟨?_, ?_, fun _ => by rw [u2_s]; exact hx0, fun q => absurd q (by decide), ?_, fun i hi => absurd hi (Nat.not_lt_zero i), fun q => absurd q (by decide), fun q => absurd q (by decide)⟩
    · rw [u2_j _ _ _ _ (by decide)]; exact h2
    · rw [u2_j _ _ _ _ (by decide)]; exact h3
    · rw [u2_j _ _ _ _ (by decide)]; exact h7
  have w62 := letW (j := 2) hT goodT_62
  have w63 := letW (j := 2) hT goodT_63
  rw [Kv_62] at w62
  rw [Kv_63] at w63
  refine pX_isWord hT hR 2 62 (by omega) (by omega) goodT_62.1 ?_
  refine br_c (fun q => ?_) (fun q => ?_)
  · rw [bI_0] at q
    have q' : ¬ LTR d w 2 = 77224099 := by rw [w62]; exact @of_decide_eq_false _ (Classical.propDecidable _) q
    refine pX_isWord hT hR 2 63 (by omega) (by omega) goodT_63.1 ?_
    refine br_c (fun z => ?_) (fun z => ?_)
    · rw [bI_0] at z
      have z' : ¬ LTR d w 2 = 1656889 := by rw [w63]; exact @of_decide_eq_false _ (Classical.propDecidable _) z
      have e : CKs d n w = [false] := by unfold CKs; rw [if_neg z', if_neg q']
      rw [e] at h
      exact h _ _ hR (FX_r _) (Or.inl ⟨rfl, rfl⟩)
    · rw [bI_ne] at z
      have z' : LTR d w 2 = 1656889 := by rw [w63]; exact @of_decide_eq_true _ (Classical.propDecidable _) z
      have e : CKs d n w = [true, decide (0 ≤ SW d n w 3 ∧ sc d (SW d n w 3).toNatClampNeg = 1), decide (0 ≤ SW d n w 4 ∧ sc d (SW d n w 4).toNatClampNeg ≤ 4)] := by unfold CKs; rw [if_pos z']
      rw [e] at h
      refine pX_number hT hR 3 0 (by omega) (by omega) ?_
      rw [NS_0]
      refine pX_sortOf hn hI hR _ ?_
      rw [SY_SW hI w 3]
      have no3 : ¬ (0 ≤ SW d n w 3 ∧ sc d (SW d n w 3).toNatClampNeg = 1) → Φ 3 hx hl := fun y => by
        simp only [decide_eq_false y] at h
        exact h _ _ hR (FX_r _) (Or.inl ⟨by simp, by simp [lr]; rfl⟩)
      by_cases p3 : 0 ≤ SW d n w 3
      · obtain ⟨s, hs, es, e5, ec, ev⟩ := swf hW w 3 p3
        have hr := sc_r hW hs e5
        rw [if_pos p3, ec]
        refine pk_eq (sc d s) 1 (fun y => ?_) (fun y => no3 (fun x => y (by rw [ec] at x; exact x.2))) rfl rfl (by omega) (by omega)
        have q3 : 0 ≤ SW d n w 3 ∧ sc d (SW d n w 3).toNatClampNeg = 1 := ⟨p3, by rw [ec]; exact y⟩
        simp only [decide_eq_true q3] at h
        refine pX_number hT hR 4 0 (by omega) (by omega) ?_
        rw [NS_0]
        refine pX_sortOf hn hI hR _ ?_
        rw [SY_SW hI w 4]
        have no4 : ¬ (0 ≤ SW d n w 4 ∧ sc d (SW d n w 4).toNatClampNeg ≤ 4) → Φ 4 hx hl := fun y => by
          simp only [decide_eq_false y] at h
          exact h _ _ hR (FX_r _) (Or.inl ⟨by simp, by simp [lr]; rfl⟩)
        by_cases p4 : 0 ≤ SW d n w 4
        · obtain ⟨s4, hs4, es4, e54, ec4, ev4⟩ := swf hW w 4 p4
          have hr4 := sc_r hW hs4 e54
          have hp : (0 : Int32) ≤ nI (sc d s4) := nI_pos' (by omega)
          rw [if_pos p4, ec4]
          refine br_f (fun y => absurd (y ▸ hp) (by decide)) ?_
          rw [pX_isArray _ (by omega)]
          refine br_c (fun x => ?_) (fun x => no4 (fun u => ?_))
          · rw [bI_0, decide_eq_false_iff_not, Decidable.not_not] at x
            have q4 : 0 ≤ SW d n w 4 ∧ sc d (SW d n w 4).toNatClampNeg ≤ 4 := ⟨p4, by rw [ec4]; exact x⟩
            simp only [decide_eq_true q4] at h
            have ea : (4 : Int32) + nI (sc d s4) = nI (4 + sc d s4) := nI_add 4 _
            rw [ea]
            have hR2 : RX d (u2 hx 10 4 (nI (4 + sc d s4))) n w := RX_u hR 10 _ _ (by omega) (by omega)
            refine pX_faultOfLength hT.1 hR2 5 (by omega) (h _ _ hR2 (FX_u _ 10 _ _ (by omega) (by omega)) (Or.inr ⟨rfl, dfl _ (Or.inl ⟨by rw [ec4], z'⟩), rfl⟩))
          · rw [bI_ne, decide_eq_true_eq] at x
            rw [ec4] at u; exact x u.2
        · rw [if_neg p4]
          exact br_t rfl (no4 (fun x => p4 x.1))
      · rw [if_neg p3]
        exact br_f (by decide) (no3 (fun x => p3 x.1))
  · rw [bI_ne] at q
    have q' : LTR d w 2 = 77224099 := by rw [w62]; exact @of_decide_eq_true _ (Classical.propDecidable _) q
    have z' : ¬ LTR d w 2 = 1656889 := by rw [q']; decide
    have e : CKs d n w = [true, decide (1 ≤ NU d w 3 ∧ NU d w 3 ≤ 3)] := by unfold CKs; rw [if_neg z', if_pos q']
    rw [e] at h
    refine pX_number hT hR 3 0 (by omega) (by omega) ?_
    rw [NS_0, u2_s]
    have hR2 : RX d (u2 hx 10 4 (NU d w 3)) n w := RX_u hR 10 _ _ (by omega) (by omega)
    have F2 : FX hx (u2 hx 10 4 (NU d w 3)) := FX_u _ 10 _ _ (by omega) (by omega)
    have no3 : ¬ (1 ≤ NU d w 3 ∧ NU d w 3 ≤ 3) → Φ 3 (u2 hx 10 4 (NU d w 3)) hl := fun y => by
      simp only [decide_eq_false y] at h
      exact h _ _ hR2 F2 (Or.inl ⟨by simp, by simp [lr]; rfl⟩)
    refine br_c (fun y => no3 (fun x => ?_)) (fun y => br_c (fun x => ?_) (fun x => no3 (fun u => x u.2)))
    · have := x.1; rw [← i32_nlt] at this; exact this y
    · rw [i32_nlt] at y
      simp only [decide_eq_true (And.intro y x)] at h
      exact pX_faultOfLength hT.1 hR2 4 (by omega) (h _ _ hR2 F2 (Or.inr ⟨rfl, dfl _ (Or.inr ⟨rfl, z'⟩), rfl⟩))
theorem PX_D {d : HI} {n w κ : Nat} {hx z hx' : HI} {L : List Bool} {r : Int32} (hp : PX d n w hx L z r hx') (D : DF d n w κ z) : (L.all id = false ∧ r = nI (lr L 2)) ∨ (L.all id = true ∧ DF d n w κ hx' ∧ r = if w ≤ 2 + L.length then -1 else nI (2 + L.length)) := by
  rcases hp.2.2 with y | ⟨y1, y2, y3⟩
  · exact Or.inl y
  · exact Or.inr ⟨y1, by rw [y2]; exact D, y3⟩
theorem CKA_len {d : HI} {n w : Nat} : (CKA d n w).length = 2 + (CK d n w (KO d w).toNatClampNeg).length := by
  unfold CKA; simp; omega
theorem pX_firstFault {d hx : HI} {n w : Nat} {hl : HL} {Φ : Int32 → HI → HL → Prop} (hT : TXw d w) (hW : WL d n) (hI : WI d n) (hR : RX d hx n w)
    (h : ∀ r hx', PF d n w hx r hx' → Φ r hx' hl) : wpD_firstFault hx hl Φ := by
  have hn := hW.1
  unfold wpD_firstFault wbD_firstFault_0
  have hR1 : RX d (u2 hx 10 7 0) n w := RX_u hR 10 _ _ (by omega) (by omega)
  refine pX_number hT hR1 0 0 (by omega) (by omega) ?_
  rw [NS_0]
  have hR2 : RX d (u2 (u2 hx 10 7 0) 10 2 (NU d w 0)) n w := RX_u hR1 10 _ _ (by omega) (by omega)
  have F2 : FX hx (u2 (u2 hx 10 7 0) 10 2 (NU d w 0)) := FX_t (FX_u _ 10 _ _ (by omega) (by omega)) (FX_u _ 10 _ _ (by omega) (by omega))
  refine pX_lastId hn hR2 ?_
  rw [u2_s]
  have ec0 : c0K d n w = decide ((if n = 0 then 0 else d 4 (n - 1)) < NU d w 0) := by
    unfold c0K
    rw [decide_eq_decide]
    rcases NU_cases d w 0 with e | ⟨v, hv, e, _⟩
    · rw [e]
      constructor
      · intro y; exact absurd y.1 (by decide)
      · intro y
        exfalso
        by_cases n0 : n = 0
        · rw [if_pos n0] at y; exact absurd y (by decide)
        · rw [if_neg n0] at y
          obtain ⟨i, i1, i9, ei⟩ := hI.1 (n - 1) (by omega)
          rw [ei] at y
          have h0 : (0 : Int32) ≤ nI i := nI_pos' (by omega)
          rw [Int32.lt_iff_toInt_lt] at y
          rw [Int32.le_iff_toInt_le] at h0
          have e1 : (0 : Int32).toInt = 0 := by decide
          have e2 : (-1 : Int32).toInt = -1 := by decide
          omega
    · rw [e]
      have e1 : ((1 : Int32) ≤ nI v) ↔ 1 ≤ v := nI_leI (a := 1) (by omega) (by omega)
      rw [e1]
      by_cases n0 : n = 0
      · rw [if_pos n0]
        have e2 : ((0 : Int32) < nI v) ↔ 0 < v := nI_ltI (a := 0) (by omega) (by omega)
        rw [e2]
        constructor
        · intro y; omega
        · intro y; exact ⟨by omega, Or.inl n0⟩
      · rw [if_neg n0]
        obtain ⟨i, i1, i9, ei⟩ := hI.1 (n - 1) (by omega)
        rw [ei, nI_ltI (by omega) (by omega)]
        constructor
        · intro y; exact y.2.resolve_left n0
        · intro y; exact ⟨by omega, Or.inr y⟩
  refine br_c (fun q => ?_) (fun q => ?_)
  · have c0 : c0K d n w = true := by rw [ec0]; exact decide_eq_true q
    refine pX_kindOfWord hT hR2 ?_
    rw [u2_s]
    have hR3 : RX d (u2 (u2 (u2 hx 10 7 0) 10 2 (NU d w 0)) 10 3 (KO d w)) n w := RX_u hR2 10 _ _ (by omega) (by omega)
    have F3 : FX hx (u2 (u2 (u2 hx 10 7 0) 10 2 (NU d w 0)) 10 3 (KO d w)) := FX_t F2 (FX_u _ 10 _ _ (by omega) (by omega))
    have no1 : c1K d n w = false → Φ 1 (u2 (u2 (u2 hx 10 7 0) 10 2 (NU d w 0)) 10 3 (KO d w)) hl := fun y => by
      refine h _ _ ⟨hR3, F3, Or.inl ⟨?_, ?_⟩⟩
      · unfold CKA; rw [c0, y]; simp
      · unfold CKA; rw [c0, y]; simp [lr]; rfl
    rcases KO_cases d w with e | ⟨κ, hκ, e⟩
    · refine br_t (by rw [e]; decide) (no1 ?_)
      unfold c1K; rw [e]; rfl
    · have hp : (0 : Int32) ≤ nI κ := nI_pos' (by omega)
      have hck : (KO d w).toNatClampNeg = κ := by rw [e]; exact nI_clamp (by omega)
      refine br_f (by rw [e]; exact nI_pos (by omega)) ⟨by rw [e]; exact vp_in_nI (by omega) (by omega), ?_⟩
      have e12 : ((12 : Int32) ≤ KO d w) ↔ 12 ≤ κ := by rw [e]; exact nI_leI (a := 12) (by omega) (by omega)
      have e14 : (KO d w ≤ (14 : Int32)) ↔ κ ≤ 14 := by rw [e]; exact nI_leI (b := 14) (by omega) (by omega)
      have eh : c1K d n w = decide (¬ ((12 ≤ κ ∧ κ ≤ 14) ∧ 2 ≤ hrd d n)) := by
        unfold c1K
        rw [decide_eq_decide, e12, e14]
        exact ⟨fun y => y.2, fun y => ⟨by rw [e]; exact hp, y⟩⟩
      have r72 : c1K d n w = true → wbD_firstFault_72 (u2 (u2 (u2 hx 10 7 0) 10 2 (NU d w 0)) 10 3 (KO d w)) hl Φ := fun c1 => by
        have g2 : u2 (u2 (u2 hx 10 7 0) 10 2 (NU d w 0)) 10 3 (KO d w) 10 2 = NU d w 0 := by simp (decide := true) only [u2_j, u2_s]
        have g3 : u2 (u2 (u2 hx 10 7 0) 10 2 (NU d w 0)) 10 3 (KO d w) 10 3 = nI κ := by rw [u2_s, e]
        have g7 : u2 (u2 (u2 hx 10 7 0) 10 2 (NU d w 0)) 10 3 (KO d w) 10 7 = nI 0 := by simp (decide := true) only [u2_j, u2_s, nI_0]
        generalize u2 (u2 (u2 hx 10 7 0) 10 2 (NU d w 0)) 10 3 (KO d w) = z at hR3 F3 g2 g3 g7 ⊢
        have fin : ∀ r hx', RX d hx' n w → FX z hx' → (((CK d n w κ).all id = false ∧ r = nI (lr (CK d n w κ) 2)) ∨ ((CK d n w κ).all id = true ∧ DF d n w κ hx' ∧ r = if w ≤ 2 + (CK d n w κ).length then -1 else nI (2 + (CK d n w κ).length))) → Φ r hx' hl := fun r hx' a1 a2 a3 => by
          refine h r hx' ⟨a1, FX_t F3 a2, ?_⟩
          have eA : CKA d n w = true :: true :: CK d n w κ := by unfold CKA; rw [c0, c1, hck]
          rw [eA, hck]
          rcases a3 with ⟨b1, b2⟩ | ⟨b1, b2, b3⟩
          · refine Or.inl ⟨by simpa using b1, ?_⟩
            rw [b2]; simp [lr]
          · refine Or.inr ⟨by simpa using b1, b2, ?_⟩
            rw [b3]
            have : (true :: true :: CK d n w κ).length = 2 + (CK d n w κ).length := by simp; omega
            rw [this]
        unfold wbD_firstFault_72
        rw [g3]
        refine ⟨vp_in_nI (by omega) (by omega), vp31 0 (by omega), pk_eq κ 0 (fun k0 => ?_) (fun k0 => ?_)⟩
        · subst k0
          have e0 : CK d n w 0 = CKs d n w := by unfold CK; rw [if_pos rfl]
          rw [e0] at fin
          exact pX_sortLine hT hW hI hR3 g2 g3 g7 fin
        · have g3' := g3
          have hc : κ = 1 ∨ κ = 2 ∨ κ = 3 ∨ κ = 4 ∨ κ = 5 ∨ κ = 6 ∨ κ = 7 ∨ κ = 8 ∨ κ = 9 ∨ κ = 10 ∨ κ = 11 ∨ κ = 12 ∨ κ = 13 ∨ κ = 14 ∨ κ = 15 ∨ κ = 16 ∨ κ = 17 ∨ κ = 18 ∨ κ = 19 ∨ κ = 20 ∨ κ = 21 ∨ κ = 22 ∨ κ = 23 ∨ κ = 24 ∨ κ = 25 ∨ κ = 26 ∨ κ = 27 ∨ κ = 28 ∨ κ = 29 ∨ κ = 30 := by omega
          rcases hc with rfl | rfl | rfl | rfl | rfl | rfl | rfl | rfl | rfl | rfl | rfl | rfl | rfl | rfl | rfl | rfl | rfl | rfl | rfl | rfl | rfl | rfl | rfl | rfl | rfl | rfl | rfl | rfl | rfl | rfl
          · exact ffX_1 hT hW hI hR3 g3 g7 (fun r hx' hp => fin r hx' hp.1 hp.2.1 (PX_D hp (DF_1 g2 g3 g7)))
          · exact ffX_2 hT hW hI hR3 g3 g7 (fun r hx' hp => fin r hx' hp.1 hp.2.1 (PX_D hp (DF_2 g2 g3 g7)))
          · exact ffX_3 hT hW hI hR3 g3 g7 (fun r hx' hp => fin r hx' hp.1 hp.2.1 (PX_D hp (DF_3 g2 g3 g7)))
          · exact ffX_4 hT hW hI hR3 g3 g7 (fun r hx' hp => fin r hx' hp.1 hp.2.1 (PX_D hp (DF_4 g2 g3 g7)))
          · exact ffX_5 hT hW hI hR3 g3 g7 (fun r hx' hp => fin r hx' hp.1 hp.2.1 (PX_D hp (DF_5 g2 g3 g7)))
          · exact ffX_6 hT hW hI hR3 g3 g7 (fun r hx' hp => fin r hx' hp.1 hp.2.1 (PX_D hp (DF_6 g2 g3 g7)))
          · exact ffX_7 hT hW hI hR3 g3 g7 (fun r hx' hp => fin r hx' hp.1 hp.2.1 (PX_D hp (DF_7 g2 g3 g7)))
          · exact ffX_8 hT hW hI hR3 g3 g7 (fun r hx' hp => fin r hx' hp.1 hp.2.1 (PX_D hp (DF_8 g2 g3 g7)))
          · exact ffX_9 hT hW hI hR3 g3 g7 (fun r hx' hp => fin r hx' hp.1 hp.2.1 (PX_D hp (DF_9 g2 g3 g7)))
          · exact ffX_10 hT hW hI hR3 g3 g7 (fun r hx' hp => fin r hx' hp.1 hp.2.1 (PX_D hp (DF_10 g2 g3 g7)))
          · exact ffX_11 hT hW hI hR3 g3 g7 (fun r hx' hp => fin r hx' hp.1 hp.2.1 (PX_D hp (DF_11 g2 g3 g7)))
          · exact ffX_12 hT hW hI hR3 g3 g7 (fun r hx' hp => fin r hx' hp.1 hp.2.1 (PX_D hp (DF_12 g2 g3 g7)))
          · exact ffX_13 hT hW hI hR3 g3 g7 (fun r hx' hp => fin r hx' hp.1 hp.2.1 (PX_D hp (DF_13 g2 g3 g7)))
          · exact ffX_14 hT hW hI hR3 g3 g7 (fun r hx' hp => fin r hx' hp.1 hp.2.1 (PX_D hp (DF_14 g2 g3 g7)))
          · exact ffX_15 hT hW hI hR3 g3 g7 (fun r hx' hp => fin r hx' hp.1 hp.2.1 (PX_D hp (DF_15 g2 g3 g7)))
          · exact ffX_16 hT hW hI hR3 g3 g7 (fun r hx' hp => fin r hx' hp.1 hp.2.1 (PX_D hp (DF_16 g2 g3 g7)))
          · exact ffX_17 hT hW hI hR3 g3 g7 (fun r hx' hp => fin r hx' hp.1 hp.2.1 (PX_D hp (DF_17 g2 g3 g7)))
          · exact ffX_18 hT hW hI hR3 g3 g7 (fun r hx' hp => fin r hx' hp.1 hp.2.1 (PX_D hp (DF_18 g2 g3 g7)))
          · exact ffX_19 hT hW hI hR3 g3 g7 (fun r hx' hp => fin r hx' hp.1 hp.2.1 (PX_D hp (DF_19 g2 g3 g7)))
          · exact ffX_20 hT hW hI hR3 g3 g7 (fun r hx' hp => fin r hx' hp.1 hp.2.1 (PX_D hp (DF_20 g2 g3 g7)))
          · exact ffX_21 hT hW hI hR3 g3 g7 (fun r hx' hp => fin r hx' hp.1 hp.2.1 (PX_D hp (DF_21 g2 g3 g7)))
          · exact ffX_22 hT hW hI hR3 g3 g7 (fun r hx' hp => fin r hx' hp.1 hp.2.1 (PX_D hp (DF_22 g2 g3 g7)))
          · exact ffX_23 hT hW hI hR3 g3 g7 (fun r hx' hp => fin r hx' hp.1 hp.2.1 (PX_D hp (DF_23 g2 g3 g7)))
          · exact ffX_24 hT hW hI hR3 g3 g7 (fun r hx' hp => fin r hx' hp.1 hp.2.1 (PX_D hp (DF_24 g2 g3 g7)))
          · exact ffX_25 hT hW hI hR3 g3 g7 (fun r hx' hp => fin r hx' hp.1 hp.2.1 (PX_D hp (DF_25 g2 g3 g7)))
          · exact ffX_26 hT hW hI hR3 g3 g7 (fun r hx' hp => fin r hx' hp.1 hp.2.1 (PX_D hp (DF_26 g2 g3 g7)))
          · exact ffX_27 hT hW hI hR3 g3 g7 (fun r hx' hp => fin r hx' hp.1 hp.2.1 (PX_D hp (DF_27 g2 g3 g7)))
          · exact ffX_28 hT hW hI hR3 g3 g7 (fun r hx' hp => fin r hx' hp.1 hp.2.1 (PX_D hp (DF_28 g2 g3 g7)))
          · exact ffX_29 hT hW hI hR3 g3 g7 (fun r hx' hp => fin r hx' hp.1 hp.2.1 (PX_D hp (DF_29 g2 g3 g7)))
          · exact ffX_30 hT hW hI hR3 g3 g7 (fun r hx' hp => fin r hx' hp.1 hp.2.1 (PX_D hp (DF_30 g2 g3 g7)))
      rw [e]
      have eqh : ∀ (hx1 : HI) (hl1 : HL) Ψ, wpK_isHard (nI κ) hx1 hl1 Ψ = wpK_isHard (nI κ) hx1 hl1 Ψ := fun _ _ _ => rfl
      rw [e] at r72 no1 hR3
      refine pX_isHard κ hκ ?_
      refine br_c (fun y => r72 ?_) (fun y => ?_)
      · rw [bI_0, decide_eq_false_iff_not] at y
        rw [eh]; exact decide_eq_true (fun x => y x.1)
      · rw [bI_ne, decide_eq_true_eq] at y
        rw [hR3.2.2.2.2.2.2.2.1]
        have := hrd_le d n
        refine pk_lt (hrd d n) 2 (fun x => r72 ?_) (fun x => no1 ?_)
        · rw [eh]; exact decide_eq_true (fun u => absurd u.2 (by omega))
        · rw [eh]; exact decide_eq_false (fun u => u ⟨y, x⟩)
  · have c0 : c0K d n w = false := by rw [ec0]; exact decide_eq_false q
    refine h _ _ ⟨hR2, F2, Or.inl ⟨?_, ?_⟩⟩
    · unfold CKA; rw [c0]; simp
    · unfold CKA; rw [c0]; simp [lr]; rfl
