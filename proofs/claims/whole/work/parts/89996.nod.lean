/-! the new node's value, by its draft (printed by wip/whole/pure/newnode.py) -/
noncomputable def kN (d : HI) (n w m : Nat) : Nat := (NW d n w (3 + m)).toNatClampNeg
noncomputable def sN (d : HI) (n w m : Nat) : Nat := ns d (NW d n w (3 + m))
noncomputable def tN (d : HI) (w m : Nat) : Bool := TN d w (3 + m)
/-- a node's value at word j, turned over if it has a - -/
noncomputable def wv (d : HI) (n w : Nat) (v : Nat → Nat) (j : Nat) : Nat := if TN d w j = true then 2 ^ ns d (NW d n w j) - 1 - v (NW d n w j).toNatClampNeg else v (NW d n w j).toNatClampNeg
theorem gvn {d d' : HI} {n w c j : Nat} (ho : opr d' n c ∧ nk d' (oix d' n c) = ns d (NW d n w j) ∧ oix d' n c = (NW d n w j).toNatClampNeg) (et : d' (c + 3) n = bI (TN d w j)) (v : Nat → Nat) : gv d' v n c = wv d n w v j := by
  unfold gv wv
  rw [ho.2.1, ho.2.2, et]
  cases TN d w j
  · rw [bI_f, if_pos rfl, if_neg (by decide)]
  · rw [bI_t, if_neg (by decide), if_pos rfl]
theorem NN_3 {d d' : HI} {n w : Nat} (h : NL d d' n w 3) (hl : HL) (v : Nat → Nat) (l u i σ : Nat) (hu : d' 13 n = nI u ∨ ¬ 3 = 3) (hll : d' 14 n = nI l ∨ ¬ 3 = 21) (hG : ∀ m, m < 0 → lwv hl 0 (kN d n w) (sN d n w) (tN d w) i σ m = wv d n w v (3 + m)) : outW hl 3 (nk d' n) 0 (kN d n w) (sN d n w) (tN d w) l u i σ = opK d' v n := by
  obtain ⟨f, hf⟩ := NL_f h
  have ha := (NL_a h).2.2
  have hW := h.2.1.1
  have hE := h.2.2.1
  rw [CK_3] at ha
  simp only [List.all_cons, List.all_nil, Bool.and_eq_true, id, and_true] at ha
  obtain ⟨b0, b1⟩ := ha
  have p1 := of_decide_eq_true b1
  have e5 : d' 5 n = nI 3 := by
    rw [hf 5 (by omega) (by omega)]
    simp (decide := true) only [FN, FNr, FNs, fA, fB, fC, f2, f1, fI, ↓reduceIte]
  have ek : (d' 5 n).toNatClampNeg = 3 := by rw [e5]; decide
  unfold outW opK oAv oBv oCv
  rw [ek]
  simp (decide := true) only [opM, ↓reduceIte]
  rw [hu.resolve_right (by decide)]
theorem NN_4 {d d' : HI} {n w : Nat} (h : NL d d' n w 4) (hl : HL) (v : Nat → Nat) (l u i σ : Nat) (hu : d' 13 n = nI u ∨ ¬ 4 = 3) (hll : d' 14 n = nI l ∨ ¬ 4 = 21) (hG : ∀ m, m < 1 → lwv hl 1 (kN d n w) (sN d n w) (tN d w) i σ m = wv d n w v (3 + m)) : outW hl 4 (nk d' n) 1 (kN d n w) (sN d n w) (tN d w) l u i σ = opK d' v n := by
  obtain ⟨f, hf⟩ := NL_f h
  have ha := (NL_a h).2.2
  have hW := h.2.1.1
  have hE := h.2.2.1
  rw [CK_4] at ha
  simp only [List.all_cons, List.all_nil, Bool.and_eq_true, id, and_true] at ha
  obtain ⟨b0, b1⟩ := ha
  have p1 := of_decide_eq_true b1
  have e5 : d' 5 n = nI 4 := by
    rw [hf 5 (by omega) (by omega)]
    simp (decide := true) only [FN, FNr, FNs, fA, fB, fC, f2, f1, fI, ↓reduceIte]
  have e7 : d' 7 n = NW d n w 3 := by
    rw [hf 7 (by omega) (by omega)]
    simp (decide := true) only [FN, FNr, FNs, fA, fB, fC, f2, f1, fI, ↓reduceIte]
  have e10 : d' 10 n = bI (TN d w 3) := by
    rw [hf 10 (by omega) (by omega)]
    simp (decide := true) only [FN, FNr, FNs, fA, fB, fC, f2, f1, fI, ↓reduceIte]
  have oA := oprn hE hW (c := 7) (p1.1) e7 e10
  have gA := gvn oA e10 v
  have ek : (d' 5 n).toNatClampNeg = 4 := by rw [e5]; decide
  unfold outW opK oAv oBv oCv
  rw [ek]
  simp (decide := true) only [opM, ↓reduceIte]
  rw [hG 0 (by decide), gA]
theorem NN_5 {d d' : HI} {n w : Nat} (h : NL d d' n w 5) (hl : HL) (v : Nat → Nat) (l u i σ : Nat) (hu : d' 13 n = nI u ∨ ¬ 5 = 3) (hll : d' 14 n = nI l ∨ ¬ 5 = 21) (hG : ∀ m, m < 1 → lwv hl 1 (kN d n w) (sN d n w) (tN d w) i σ m = wv d n w v (3 + m)) : outW hl 5 (nk d' n) 1 (kN d n w) (sN d n w) (tN d w) l u i σ = opK d' v n := by
  obtain ⟨f, hf⟩ := NL_f h
  have ha := (NL_a h).2.2
  have hW := h.2.1.1
  have hE := h.2.2.1
  rw [CK_5] at ha
  simp only [List.all_cons, List.all_nil, Bool.and_eq_true, id, and_true] at ha
  obtain ⟨b0, b1⟩ := ha
  have p1 := of_decide_eq_true b1
  have e5 : d' 5 n = nI 5 := by
    rw [hf 5 (by omega) (by omega)]
    simp (decide := true) only [FN, FNr, FNs, fA, fB, fC, f2, f1, fI, ↓reduceIte]
  have e7 : d' 7 n = NW d n w 3 := by
    rw [hf 7 (by omega) (by omega)]
    simp (decide := true) only [FN, FNr, FNs, fA, fB, fC, f2, f1, fI, ↓reduceIte]
  have e10 : d' 10 n = bI (TN d w 3) := by
    rw [hf 10 (by omega) (by omega)]
    simp (decide := true) only [FN, FNr, FNs, fA, fB, fC, f2, f1, fI, ↓reduceIte]
  have oA := oprn hE hW (c := 7) (p1.1) e7 e10
  have gA := gvn oA e10 v
  have ek : (d' 5 n).toNatClampNeg = 5 := by rw [e5]; decide
  unfold outW opK oAv oBv oCv
  rw [ek]
  simp (decide := true) only [opM, ↓reduceIte]
  rw [hG 0 (by decide), gA]
theorem NN_6 {d d' : HI} {n w : Nat} (h : NL d d' n w 6) (hl : HL) (v : Nat → Nat) (l u i σ : Nat) (hu : d' 13 n = nI u ∨ ¬ 6 = 3) (hll : d' 14 n = nI l ∨ ¬ 6 = 21) (hG : ∀ m, m < 1 → lwv hl 1 (kN d n w) (sN d n w) (tN d w) i σ m = wv d n w v (3 + m)) : outW hl 6 (nk d' n) 1 (kN d n w) (sN d n w) (tN d w) l u i σ = opK d' v n := by
  obtain ⟨f, hf⟩ := NL_f h
  have ha := (NL_a h).2.2
  have hW := h.2.1.1
  have hE := h.2.2.1
  rw [CK_6] at ha
  simp only [List.all_cons, List.all_nil, Bool.and_eq_true, id, and_true] at ha
  obtain ⟨b0, b1⟩ := ha
  have p1 := of_decide_eq_true b1
  have e5 : d' 5 n = nI 6 := by
    rw [hf 5 (by omega) (by omega)]
    simp (decide := true) only [FN, FNr, FNs, fA, fB, fC, f2, f1, fI, ↓reduceIte]
  have e7 : d' 7 n = NW d n w 3 := by
    rw [hf 7 (by omega) (by omega)]
    simp (decide := true) only [FN, FNr, FNs, fA, fB, fC, f2, f1, fI, ↓reduceIte]
  have e10 : d' 10 n = bI (TN d w 3) := by
    rw [hf 10 (by omega) (by omega)]
    simp (decide := true) only [FN, FNr, FNs, fA, fB, fC, f2, f1, fI, ↓reduceIte]
  have oA := oprn hE hW (c := 7) (p1.1) e7 e10
  have gA := gvn oA e10 v
  have ek : (d' 5 n).toNatClampNeg = 6 := by rw [e5]; decide
  unfold outW opK oAv oBv oCv
  rw [ek]
  simp (decide := true) only [opM, ↓reduceIte]
  rw [hG 0 (by decide), gA]
theorem NN_7 {d d' : HI} {n w : Nat} (h : NL d d' n w 7) (hl : HL) (v : Nat → Nat) (l u i σ : Nat) (hu : d' 13 n = nI u ∨ ¬ 7 = 3) (hll : d' 14 n = nI l ∨ ¬ 7 = 21) (hG : ∀ m, m < 2 → lwv hl 2 (kN d n w) (sN d n w) (tN d w) i σ m = wv d n w v (3 + m)) : outW hl 7 (nk d' n) 2 (kN d n w) (sN d n w) (tN d w) l u i σ = opK d' v n := by
  obtain ⟨f, hf⟩ := NL_f h
  have ha := (NL_a h).2.2
  have hW := h.2.1.1
  have hE := h.2.2.1
  rw [CK_7] at ha
  simp only [List.all_cons, List.all_nil, Bool.and_eq_true, id, and_true] at ha
  obtain ⟨b0, b1, b2⟩ := ha
  have p1 := of_decide_eq_true b1
  have p2 := of_decide_eq_true b2
  have e5 : d' 5 n = nI 7 := by
    rw [hf 5 (by omega) (by omega)]
    simp (decide := true) only [FN, FNr, FNs, fA, fB, fC, f2, f1, fI, ↓reduceIte]
  have e7 : d' 7 n = NW d n w 3 := by
    rw [hf 7 (by omega) (by omega)]
    simp (decide := true) only [FN, FNr, FNs, fA, fB, fC, f2, f1, fI, ↓reduceIte]
  have e10 : d' 10 n = bI (TN d w 3) := by
    rw [hf 10 (by omega) (by omega)]
    simp (decide := true) only [FN, FNr, FNs, fA, fB, fC, f2, f1, fI, ↓reduceIte]
  have e8 : d' 8 n = NW d n w 4 := by
    rw [hf 8 (by omega) (by omega)]
    simp (decide := true) only [FN, FNr, FNs, fA, fB, fC, f2, f1, fI, ↓reduceIte]
  have e11 : d' 11 n = bI (TN d w 4) := by
    rw [hf 11 (by omega) (by omega)]
    simp (decide := true) only [FN, FNr, FNs, fA, fB, fC, f2, f1, fI, ↓reduceIte]
  have oA := oprn hE hW (c := 7) (p1.1) e7 e10
  have gA := gvn oA e10 v
  have oB := oprn hE hW (c := 8) (p2.1) e8 e11
  have gB := gvn oB e11 v
  have ek : (d' 5 n).toNatClampNeg = 7 := by rw [e5]; decide
  unfold outW opK oAv oBv oCv
  rw [ek]
  simp (decide := true) only [opM, ↓reduceIte]
  rw [hG 0 (by decide), gA, hG 1 (by decide), gB]
theorem NN_8 {d d' : HI} {n w : Nat} (h : NL d d' n w 8) (hl : HL) (v : Nat → Nat) (l u i σ : Nat) (hu : d' 13 n = nI u ∨ ¬ 8 = 3) (hll : d' 14 n = nI l ∨ ¬ 8 = 21) (hG : ∀ m, m < 2 → lwv hl 2 (kN d n w) (sN d n w) (tN d w) i σ m = wv d n w v (3 + m)) : outW hl 8 (nk d' n) 2 (kN d n w) (sN d n w) (tN d w) l u i σ = opK d' v n := by
  obtain ⟨f, hf⟩ := NL_f h
  have ha := (NL_a h).2.2
  have hW := h.2.1.1
  have hE := h.2.2.1
  rw [CK_8] at ha
  simp only [List.all_cons, List.all_nil, Bool.and_eq_true, id, and_true] at ha
  obtain ⟨b0, b1, b2⟩ := ha
  have p1 := of_decide_eq_true b1
  have p2 := of_decide_eq_true b2
  have e5 : d' 5 n = nI 8 := by
    rw [hf 5 (by omega) (by omega)]
    simp (decide := true) only [FN, FNr, FNs, fA, fB, fC, f2, f1, fI, ↓reduceIte]
  have e7 : d' 7 n = NW d n w 3 := by
    rw [hf 7 (by omega) (by omega)]
    simp (decide := true) only [FN, FNr, FNs, fA, fB, fC, f2, f1, fI, ↓reduceIte]
  have e10 : d' 10 n = bI (TN d w 3) := by
    rw [hf 10 (by omega) (by omega)]
    simp (decide := true) only [FN, FNr, FNs, fA, fB, fC, f2, f1, fI, ↓reduceIte]
  have e8 : d' 8 n = NW d n w 4 := by
    rw [hf 8 (by omega) (by omega)]
    simp (decide := true) only [FN, FNr, FNs, fA, fB, fC, f2, f1, fI, ↓reduceIte]
  have e11 : d' 11 n = bI (TN d w 4) := by
    rw [hf 11 (by omega) (by omega)]
    simp (decide := true) only [FN, FNr, FNs, fA, fB, fC, f2, f1, fI, ↓reduceIte]
  have oA := oprn hE hW (c := 7) (p1.1) e7 e10
  have gA := gvn oA e10 v
  have oB := oprn hE hW (c := 8) (p2.1) e8 e11
  have gB := gvn oB e11 v
  have ek : (d' 5 n).toNatClampNeg = 8 := by rw [e5]; decide
  unfold outW opK oAv oBv oCv
  rw [ek]
  simp (decide := true) only [opM, ↓reduceIte]
  rw [hG 0 (by decide), gA, hG 1 (by decide), gB]
theorem NN_9 {d d' : HI} {n w : Nat} (h : NL d d' n w 9) (hl : HL) (v : Nat → Nat) (l u i σ : Nat) (hu : d' 13 n = nI u ∨ ¬ 9 = 3) (hll : d' 14 n = nI l ∨ ¬ 9 = 21) (hG : ∀ m, m < 2 → lwv hl 2 (kN d n w) (sN d n w) (tN d w) i σ m = wv d n w v (3 + m)) : outW hl 9 (nk d' n) 2 (kN d n w) (sN d n w) (tN d w) l u i σ = opK d' v n := by
  obtain ⟨f, hf⟩ := NL_f h
  have ha := (NL_a h).2.2
  have hW := h.2.1.1
  have hE := h.2.2.1
  rw [CK_9] at ha
  simp only [List.all_cons, List.all_nil, Bool.and_eq_true, id, and_true] at ha
  obtain ⟨b0, b1, b2⟩ := ha
  have p1 := of_decide_eq_true b1
  have p2 := of_decide_eq_true b2
  have e5 : d' 5 n = nI 9 := by
    rw [hf 5 (by omega) (by omega)]
    simp (decide := true) only [FN, FNr, FNs, fA, fB, fC, f2, f1, fI, ↓reduceIte]
  have e7 : d' 7 n = NW d n w 3 := by
    rw [hf 7 (by omega) (by omega)]
    simp (decide := true) only [FN, FNr, FNs, fA, fB, fC, f2, f1, fI, ↓reduceIte]
  have e10 : d' 10 n = bI (TN d w 3) := by
    rw [hf 10 (by omega) (by omega)]
    simp (decide := true) only [FN, FNr, FNs, fA, fB, fC, f2, f1, fI, ↓reduceIte]
  have e8 : d' 8 n = NW d n w 4 := by
    rw [hf 8 (by omega) (by omega)]
    simp (decide := true) only [FN, FNr, FNs, fA, fB, fC, f2, f1, fI, ↓reduceIte]
  have e11 : d' 11 n = bI (TN d w 4) := by
    rw [hf 11 (by omega) (by omega)]
    simp (decide := true) only [FN, FNr, FNs, fA, fB, fC, f2, f1, fI, ↓reduceIte]
  have oA := oprn hE hW (c := 7) (p1.1) e7 e10
  have gA := gvn oA e10 v
  have oB := oprn hE hW (c := 8) (p2.1) e8 e11
  have gB := gvn oB e11 v
  have ek : (d' 5 n).toNatClampNeg = 9 := by rw [e5]; decide
  unfold outW opK oAv oBv oCv
  rw [ek]
  simp (decide := true) only [opM, ↓reduceIte]
  rw [hG 0 (by decide), gA, hG 1 (by decide), gB]
theorem NN_10 {d d' : HI} {n w : Nat} (h : NL d d' n w 10) (hl : HL) (v : Nat → Nat) (l u i σ : Nat) (hu : d' 13 n = nI u ∨ ¬ 10 = 3) (hll : d' 14 n = nI l ∨ ¬ 10 = 21) (hG : ∀ m, m < 2 → lwv hl 2 (kN d n w) (sN d n w) (tN d w) i σ m = wv d n w v (3 + m)) : outW hl 10 (nk d' n) 2 (kN d n w) (sN d n w) (tN d w) l u i σ = opK d' v n := by
  obtain ⟨f, hf⟩ := NL_f h
  have ha := (NL_a h).2.2
  have hW := h.2.1.1
  have hE := h.2.2.1
  rw [CK_10] at ha
  simp only [List.all_cons, List.all_nil, Bool.and_eq_true, id, and_true] at ha
  obtain ⟨b0, b1, b2⟩ := ha
  have p1 := of_decide_eq_true b1
  have p2 := of_decide_eq_true b2
  have e5 : d' 5 n = nI 10 := by
    rw [hf 5 (by omega) (by omega)]
    simp (decide := true) only [FN, FNr, FNs, fA, fB, fC, f2, f1, fI, ↓reduceIte]
  have e7 : d' 7 n = NW d n w 3 := by
    rw [hf 7 (by omega) (by omega)]
    simp (decide := true) only [FN, FNr, FNs, fA, fB, fC, f2, f1, fI, ↓reduceIte]
  have e10 : d' 10 n = bI (TN d w 3) := by
    rw [hf 10 (by omega) (by omega)]
    simp (decide := true) only [FN, FNr, FNs, fA, fB, fC, f2, f1, fI, ↓reduceIte]
  have e8 : d' 8 n = NW d n w 4 := by
    rw [hf 8 (by omega) (by omega)]
    simp (decide := true) only [FN, FNr, FNs, fA, fB, fC, f2, f1, fI, ↓reduceIte]
  have e11 : d' 11 n = bI (TN d w 4) := by
    rw [hf 11 (by omega) (by omega)]
    simp (decide := true) only [FN, FNr, FNs, fA, fB, fC, f2, f1, fI, ↓reduceIte]
  have oA := oprn hE hW (c := 7) (p1.1) e7 e10
  have gA := gvn oA e10 v
  have oB := oprn hE hW (c := 8) (p2.1) e8 e11
  have gB := gvn oB e11 v
  have ek : (d' 5 n).toNatClampNeg = 10 := by rw [e5]; decide
  unfold outW opK oAv oBv oCv
  rw [ek]
  simp (decide := true) only [opM, ↓reduceIte]
  rw [hG 0 (by decide), gA, hG 1 (by decide), gB]
theorem NN_11 {d d' : HI} {n w : Nat} (h : NL d d' n w 11) (hl : HL) (v : Nat → Nat) (l u i σ : Nat) (hu : d' 13 n = nI u ∨ ¬ 11 = 3) (hll : d' 14 n = nI l ∨ ¬ 11 = 21) (hG : ∀ m, m < 2 → lwv hl 2 (kN d n w) (sN d n w) (tN d w) i σ m = wv d n w v (3 + m)) : outW hl 11 (nk d' n) 2 (kN d n w) (sN d n w) (tN d w) l u i σ = opK d' v n := by
  obtain ⟨f, hf⟩ := NL_f h
  have ha := (NL_a h).2.2
  have hW := h.2.1.1
  have hE := h.2.2.1
  rw [CK_11] at ha
  simp only [List.all_cons, List.all_nil, Bool.and_eq_true, id, and_true] at ha
  obtain ⟨b0, b1, b2⟩ := ha
  have p1 := of_decide_eq_true b1
  have p2 := of_decide_eq_true b2
  have e5 : d' 5 n = nI 11 := by
    rw [hf 5 (by omega) (by omega)]
    simp (decide := true) only [FN, FNr, FNs, fA, fB, fC, f2, f1, fI, ↓reduceIte]
  have e7 : d' 7 n = NW d n w 3 := by
    rw [hf 7 (by omega) (by omega)]
    simp (decide := true) only [FN, FNr, FNs, fA, fB, fC, f2, f1, fI, ↓reduceIte]
  have e10 : d' 10 n = bI (TN d w 3) := by
    rw [hf 10 (by omega) (by omega)]
    simp (decide := true) only [FN, FNr, FNs, fA, fB, fC, f2, f1, fI, ↓reduceIte]
  have e8 : d' 8 n = NW d n w 4 := by
    rw [hf 8 (by omega) (by omega)]
    simp (decide := true) only [FN, FNr, FNs, fA, fB, fC, f2, f1, fI, ↓reduceIte]
  have e11 : d' 11 n = bI (TN d w 4) := by
    rw [hf 11 (by omega) (by omega)]
    simp (decide := true) only [FN, FNr, FNs, fA, fB, fC, f2, f1, fI, ↓reduceIte]
  have oA := oprn hE hW (c := 7) (p1.1) e7 e10
  have gA := gvn oA e10 v
  have oB := oprn hE hW (c := 8) (p2.1) e8 e11
  have gB := gvn oB e11 v
  have ek : (d' 5 n).toNatClampNeg = 11 := by rw [e5]; decide
  unfold outW opK oAv oBv oCv
  rw [ek]
  simp (decide := true) only [opM, ↓reduceIte]
  rw [hG 0 (by decide), gA, hG 1 (by decide), gB]
theorem NN_12 {d d' : HI} {n w : Nat} (h : NL d d' n w 12) (hl : HL) (v : Nat → Nat) (l u i σ : Nat) (hu : d' 13 n = nI u ∨ ¬ 12 = 3) (hll : d' 14 n = nI l ∨ ¬ 12 = 21) (hG : ∀ m, m < 2 → lwv hl 2 (kN d n w) (sN d n w) (tN d w) i σ m = wv d n w v (3 + m)) : outW hl 12 (nk d' n) 2 (kN d n w) (sN d n w) (tN d w) l u i σ = opK d' v n := by
  obtain ⟨f, hf⟩ := NL_f h
  have ha := (NL_a h).2.2
  have hW := h.2.1.1
  have hE := h.2.2.1
  rw [CK_12] at ha
  simp only [List.all_cons, List.all_nil, Bool.and_eq_true, id, and_true] at ha
  obtain ⟨b0, b1, b2⟩ := ha
  have p1 := of_decide_eq_true b1
  have p2 := of_decide_eq_true b2
  have e5 : d' 5 n = nI 12 := by
    rw [hf 5 (by omega) (by omega)]
    simp (decide := true) only [FN, FNr, FNs, fA, fB, fC, f2, f1, fI, ↓reduceIte]
  have e7 : d' 7 n = NW d n w 3 := by
    rw [hf 7 (by omega) (by omega)]
    simp (decide := true) only [FN, FNr, FNs, fA, fB, fC, f2, f1, fI, ↓reduceIte]
  have e10 : d' 10 n = bI (TN d w 3) := by
    rw [hf 10 (by omega) (by omega)]
    simp (decide := true) only [FN, FNr, FNs, fA, fB, fC, f2, f1, fI, ↓reduceIte]
  have e8 : d' 8 n = NW d n w 4 := by
    rw [hf 8 (by omega) (by omega)]
    simp (decide := true) only [FN, FNr, FNs, fA, fB, fC, f2, f1, fI, ↓reduceIte]
  have e11 : d' 11 n = bI (TN d w 4) := by
    rw [hf 11 (by omega) (by omega)]
    simp (decide := true) only [FN, FNr, FNs, fA, fB, fC, f2, f1, fI, ↓reduceIte]
  have oA := oprn hE hW (c := 7) (p1.1) e7 e10
  have gA := gvn oA e10 v
  have oB := oprn hE hW (c := 8) (p2.1) e8 e11
  have gB := gvn oB e11 v
  have ek : (d' 5 n).toNatClampNeg = 12 := by rw [e5]; decide
  unfold outW opK oAv oBv oCv
  rw [ek]
  simp (decide := true) only [opM, ↓reduceIte]
  rw [hG 0 (by decide), gA, hG 1 (by decide), gB]
theorem NN_13 {d d' : HI} {n w : Nat} (h : NL d d' n w 13) (hl : HL) (v : Nat → Nat) (l u i σ : Nat) (hu : d' 13 n = nI u ∨ ¬ 13 = 3) (hll : d' 14 n = nI l ∨ ¬ 13 = 21) (hG : ∀ m, m < 2 → lwv hl 2 (kN d n w) (sN d n w) (tN d w) i σ m = wv d n w v (3 + m)) : outW hl 13 (nk d' n) 2 (kN d n w) (sN d n w) (tN d w) l u i σ = opK d' v n := by
  obtain ⟨f, hf⟩ := NL_f h
  have ha := (NL_a h).2.2
  have hW := h.2.1.1
  have hE := h.2.2.1
  rw [CK_13] at ha
  simp only [List.all_cons, List.all_nil, Bool.and_eq_true, id, and_true] at ha
  obtain ⟨b0, b1, b2⟩ := ha
  have p1 := of_decide_eq_true b1
  have p2 := of_decide_eq_true b2
  have e5 : d' 5 n = nI 13 := by
    rw [hf 5 (by omega) (by omega)]
    simp (decide := true) only [FN, FNr, FNs, fA, fB, fC, f2, f1, fI, ↓reduceIte]
  have e7 : d' 7 n = NW d n w 3 := by
    rw [hf 7 (by omega) (by omega)]
    simp (decide := true) only [FN, FNr, FNs, fA, fB, fC, f2, f1, fI, ↓reduceIte]
  have e10 : d' 10 n = bI (TN d w 3) := by
    rw [hf 10 (by omega) (by omega)]
    simp (decide := true) only [FN, FNr, FNs, fA, fB, fC, f2, f1, fI, ↓reduceIte]
  have e8 : d' 8 n = NW d n w 4 := by
    rw [hf 8 (by omega) (by omega)]
    simp (decide := true) only [FN, FNr, FNs, fA, fB, fC, f2, f1, fI, ↓reduceIte]
  have e11 : d' 11 n = bI (TN d w 4) := by
    rw [hf 11 (by omega) (by omega)]
    simp (decide := true) only [FN, FNr, FNs, fA, fB, fC, f2, f1, fI, ↓reduceIte]
  have oA := oprn hE hW (c := 7) (p1.1) e7 e10
  have gA := gvn oA e10 v
  have oB := oprn hE hW (c := 8) (p2.1) e8 e11
  have gB := gvn oB e11 v
  have ek : (d' 5 n).toNatClampNeg = 13 := by rw [e5]; decide
  unfold outW opK oAv oBv oCv
  rw [ek]
  simp (decide := true) only [opM, ↓reduceIte]
  rw [hG 0 (by decide), gA, hG 1 (by decide), gB]
theorem NN_14 {d d' : HI} {n w : Nat} (h : NL d d' n w 14) (hl : HL) (v : Nat → Nat) (l u i σ : Nat) (hu : d' 13 n = nI u ∨ ¬ 14 = 3) (hll : d' 14 n = nI l ∨ ¬ 14 = 21) (hG : ∀ m, m < 2 → lwv hl 2 (kN d n w) (sN d n w) (tN d w) i σ m = wv d n w v (3 + m)) : outW hl 14 (nk d' n) 2 (kN d n w) (sN d n w) (tN d w) l u i σ = opK d' v n := by
  obtain ⟨f, hf⟩ := NL_f h
  have ha := (NL_a h).2.2
  have hW := h.2.1.1
  have hE := h.2.2.1
  rw [CK_14] at ha
  simp only [List.all_cons, List.all_nil, Bool.and_eq_true, id, and_true] at ha
  obtain ⟨b0, b1, b2⟩ := ha
  have p1 := of_decide_eq_true b1
  have p2 := of_decide_eq_true b2
  have e5 : d' 5 n = nI 14 := by
    rw [hf 5 (by omega) (by omega)]
    simp (decide := true) only [FN, FNr, FNs, fA, fB, fC, f2, f1, fI, ↓reduceIte]
  have e7 : d' 7 n = NW d n w 3 := by
    rw [hf 7 (by omega) (by omega)]
    simp (decide := true) only [FN, FNr, FNs, fA, fB, fC, f2, f1, fI, ↓reduceIte]
  have e10 : d' 10 n = bI (TN d w 3) := by
    rw [hf 10 (by omega) (by omega)]
    simp (decide := true) only [FN, FNr, FNs, fA, fB, fC, f2, f1, fI, ↓reduceIte]
  have e8 : d' 8 n = NW d n w 4 := by
    rw [hf 8 (by omega) (by omega)]
    simp (decide := true) only [FN, FNr, FNs, fA, fB, fC, f2, f1, fI, ↓reduceIte]
  have e11 : d' 11 n = bI (TN d w 4) := by
    rw [hf 11 (by omega) (by omega)]
    simp (decide := true) only [FN, FNr, FNs, fA, fB, fC, f2, f1, fI, ↓reduceIte]
  have oA := oprn hE hW (c := 7) (p1.1) e7 e10
  have gA := gvn oA e10 v
  have oB := oprn hE hW (c := 8) (p2.1) e8 e11
  have gB := gvn oB e11 v
  have ek : (d' 5 n).toNatClampNeg = 14 := by rw [e5]; decide
  unfold outW opK oAv oBv oCv
  rw [ek]
  simp (decide := true) only [opM, ↓reduceIte]
  rw [hG 0 (by decide), gA, hG 1 (by decide), gB]
theorem NN_15 {d d' : HI} {n w : Nat} (h : NL d d' n w 15) (hl : HL) (v : Nat → Nat) (l u i σ : Nat) (hu : d' 13 n = nI u ∨ ¬ 15 = 3) (hll : d' 14 n = nI l ∨ ¬ 15 = 21) (hG : ∀ m, m < 2 → lwv hl 2 (kN d n w) (sN d n w) (tN d w) i σ m = wv d n w v (3 + m)) : outW hl 15 (nk d' n) 2 (kN d n w) (sN d n w) (tN d w) l u i σ = opK d' v n := by
  obtain ⟨f, hf⟩ := NL_f h
  have ha := (NL_a h).2.2
  have hW := h.2.1.1
  have hE := h.2.2.1
  rw [CK_15] at ha
  simp only [List.all_cons, List.all_nil, Bool.and_eq_true, id, and_true] at ha
  obtain ⟨b0, b1, b2⟩ := ha
  have p1 := of_decide_eq_true b1
  have p2 := of_decide_eq_true b2
  have e5 : d' 5 n = nI 15 := by
    rw [hf 5 (by omega) (by omega)]
    simp (decide := true) only [FN, FNr, FNs, fA, fB, fC, f2, f1, fI, ↓reduceIte]
  have e7 : d' 7 n = NW d n w 3 := by
    rw [hf 7 (by omega) (by omega)]
    simp (decide := true) only [FN, FNr, FNs, fA, fB, fC, f2, f1, fI, ↓reduceIte]
  have e10 : d' 10 n = bI (TN d w 3) := by
    rw [hf 10 (by omega) (by omega)]
    simp (decide := true) only [FN, FNr, FNs, fA, fB, fC, f2, f1, fI, ↓reduceIte]
  have e8 : d' 8 n = NW d n w 4 := by
    rw [hf 8 (by omega) (by omega)]
    simp (decide := true) only [FN, FNr, FNs, fA, fB, fC, f2, f1, fI, ↓reduceIte]
  have e11 : d' 11 n = bI (TN d w 4) := by
    rw [hf 11 (by omega) (by omega)]
    simp (decide := true) only [FN, FNr, FNs, fA, fB, fC, f2, f1, fI, ↓reduceIte]
  have oA := oprn hE hW (c := 7) (p1.1) e7 e10
  have gA := gvn oA e10 v
  have oB := oprn hE hW (c := 8) (p2.1) e8 e11
  have gB := gvn oB e11 v
  have ek : (d' 5 n).toNatClampNeg = 15 := by rw [e5]; decide
  unfold outW opK oAv oBv oCv
  rw [ek]
  simp (decide := true) only [opM, ↓reduceIte]
  rw [hG 0 (by decide), gA, hG 1 (by decide), gB]
theorem NN_16 {d d' : HI} {n w : Nat} (h : NL d d' n w 16) (hl : HL) (v : Nat → Nat) (l u i σ : Nat) (hu : d' 13 n = nI u ∨ ¬ 16 = 3) (hll : d' 14 n = nI l ∨ ¬ 16 = 21) (hG : ∀ m, m < 2 → lwv hl 2 (kN d n w) (sN d n w) (tN d w) i σ m = wv d n w v (3 + m)) : outW hl 16 (nk d' n) 2 (kN d n w) (sN d n w) (tN d w) l u i σ = opK d' v n := by
  obtain ⟨f, hf⟩ := NL_f h
  have ha := (NL_a h).2.2
  have hW := h.2.1.1
  have hE := h.2.2.1
  rw [CK_16] at ha
  simp only [List.all_cons, List.all_nil, Bool.and_eq_true, id, and_true] at ha
  obtain ⟨b0, b1, b2⟩ := ha
  have p1 := of_decide_eq_true b1
  have p2 := of_decide_eq_true b2
  have e5 : d' 5 n = nI 16 := by
    rw [hf 5 (by omega) (by omega)]
    simp (decide := true) only [FN, FNr, FNs, fA, fB, fC, f2, f1, fI, ↓reduceIte]
  have e7 : d' 7 n = NW d n w 3 := by
    rw [hf 7 (by omega) (by omega)]
    simp (decide := true) only [FN, FNr, FNs, fA, fB, fC, f2, f1, fI, ↓reduceIte]
  have e10 : d' 10 n = bI (TN d w 3) := by
    rw [hf 10 (by omega) (by omega)]
    simp (decide := true) only [FN, FNr, FNs, fA, fB, fC, f2, f1, fI, ↓reduceIte]
  have e8 : d' 8 n = NW d n w 4 := by
    rw [hf 8 (by omega) (by omega)]
    simp (decide := true) only [FN, FNr, FNs, fA, fB, fC, f2, f1, fI, ↓reduceIte]
  have e11 : d' 11 n = bI (TN d w 4) := by
    rw [hf 11 (by omega) (by omega)]
    simp (decide := true) only [FN, FNr, FNs, fA, fB, fC, f2, f1, fI, ↓reduceIte]
  have oA := oprn hE hW (c := 7) (p1.1) e7 e10
  have gA := gvn oA e10 v
  have oB := oprn hE hW (c := 8) (p2.1) e8 e11
  have gB := gvn oB e11 v
  have ek : (d' 5 n).toNatClampNeg = 16 := by rw [e5]; decide
  unfold outW opK oAv oBv oCv
  rw [ek]
  simp (decide := true) only [opM, ↓reduceIte]
  rw [hG 0 (by decide), gA, hG 1 (by decide), gB]
theorem NN_17 {d d' : HI} {n w : Nat} (h : NL d d' n w 17) (hl : HL) (v : Nat → Nat) (l u i σ : Nat) (hu : d' 13 n = nI u ∨ ¬ 17 = 3) (hll : d' 14 n = nI l ∨ ¬ 17 = 21) (hG : ∀ m, m < 2 → lwv hl 2 (kN d n w) (sN d n w) (tN d w) i σ m = wv d n w v (3 + m)) : outW hl 17 (nk d' n) 2 (kN d n w) (sN d n w) (tN d w) l u i σ = opK d' v n := by
  obtain ⟨f, hf⟩ := NL_f h
  have ha := (NL_a h).2.2
  have hW := h.2.1.1
  have hE := h.2.2.1
  rw [CK_17] at ha
  simp only [List.all_cons, List.all_nil, Bool.and_eq_true, id, and_true] at ha
  obtain ⟨b0, b1, b2⟩ := ha
  have p1 := of_decide_eq_true b1
  have p2 := of_decide_eq_true b2
  have e5 : d' 5 n = nI 17 := by
    rw [hf 5 (by omega) (by omega)]
    simp (decide := true) only [FN, FNr, FNs, fA, fB, fC, f2, f1, fI, ↓reduceIte]
  have e7 : d' 7 n = NW d n w 3 := by
    rw [hf 7 (by omega) (by omega)]
    simp (decide := true) only [FN, FNr, FNs, fA, fB, fC, f2, f1, fI, ↓reduceIte]
  have e10 : d' 10 n = bI (TN d w 3) := by
    rw [hf 10 (by omega) (by omega)]
    simp (decide := true) only [FN, FNr, FNs, fA, fB, fC, f2, f1, fI, ↓reduceIte]
  have e8 : d' 8 n = NW d n w 4 := by
    rw [hf 8 (by omega) (by omega)]
    simp (decide := true) only [FN, FNr, FNs, fA, fB, fC, f2, f1, fI, ↓reduceIte]
  have e11 : d' 11 n = bI (TN d w 4) := by
    rw [hf 11 (by omega) (by omega)]
    simp (decide := true) only [FN, FNr, FNs, fA, fB, fC, f2, f1, fI, ↓reduceIte]
  have oA := oprn hE hW (c := 7) (p1) e7 e10
  have gA := gvn oA e10 v
  have oB := oprn hE hW (c := 8) (p2.1) e8 e11
  have gB := gvn oB e11 v
  have ek : (d' 5 n).toNatClampNeg = 17 := by rw [e5]; decide
  unfold outW opK oAv oBv oCv
  rw [ek]
  simp (decide := true) only [opM, ↓reduceIte]
  rw [hG 0 (by decide), gA, hG 1 (by decide), gB]
theorem NN_18 {d d' : HI} {n w : Nat} (h : NL d d' n w 18) (hl : HL) (v : Nat → Nat) (l u i σ : Nat) (hu : d' 13 n = nI u ∨ ¬ 18 = 3) (hll : d' 14 n = nI l ∨ ¬ 18 = 21) (hG : ∀ m, m < 2 → lwv hl 2 (kN d n w) (sN d n w) (tN d w) i σ m = wv d n w v (3 + m)) : outW hl 18 (nk d' n) 2 (kN d n w) (sN d n w) (tN d w) l u i σ = opK d' v n := by
  obtain ⟨f, hf⟩ := NL_f h
  have ha := (NL_a h).2.2
  have hW := h.2.1.1
  have hE := h.2.2.1
  rw [CK_18] at ha
  simp only [List.all_cons, List.all_nil, Bool.and_eq_true, id, and_true] at ha
  obtain ⟨b0, b1, b2⟩ := ha
  have p1 := of_decide_eq_true b1
  have p2 := of_decide_eq_true b2
  have e5 : d' 5 n = nI 18 := by
    rw [hf 5 (by omega) (by omega)]
    simp (decide := true) only [FN, FNr, FNs, fA, fB, fC, f2, f1, fI, ↓reduceIte]
  have e7 : d' 7 n = NW d n w 3 := by
    rw [hf 7 (by omega) (by omega)]
    simp (decide := true) only [FN, FNr, FNs, fA, fB, fC, f2, f1, fI, ↓reduceIte]
  have e10 : d' 10 n = bI (TN d w 3) := by
    rw [hf 10 (by omega) (by omega)]
    simp (decide := true) only [FN, FNr, FNs, fA, fB, fC, f2, f1, fI, ↓reduceIte]
  have e8 : d' 8 n = NW d n w 4 := by
    rw [hf 8 (by omega) (by omega)]
    simp (decide := true) only [FN, FNr, FNs, fA, fB, fC, f2, f1, fI, ↓reduceIte]
  have e11 : d' 11 n = bI (TN d w 4) := by
    rw [hf 11 (by omega) (by omega)]
    simp (decide := true) only [FN, FNr, FNs, fA, fB, fC, f2, f1, fI, ↓reduceIte]
  have oA := oprn hE hW (c := 7) (p1.1) e7 e10
  have gA := gvn oA e10 v
  have oB := oprn hE hW (c := 8) (p2.1) e8 e11
  have gB := gvn oB e11 v
  have ek : (d' 5 n).toNatClampNeg = 18 := by rw [e5]; decide
  unfold outW opK oAv oBv oCv
  rw [ek]
  simp (decide := true) only [opM, ↓reduceIte]
  rw [hG 0 (by decide), gA, hG 1 (by decide), gB]
theorem NN_19 {d d' : HI} {n w : Nat} (h : NL d d' n w 19) (hl : HL) (v : Nat → Nat) (l u i σ : Nat) (hu : d' 13 n = nI u ∨ ¬ 19 = 3) (hll : d' 14 n = nI l ∨ ¬ 19 = 21) (hG : ∀ m, m < 2 → lwv hl 2 (kN d n w) (sN d n w) (tN d w) i σ m = wv d n w v (3 + m)) : outW hl 19 (nk d' n) 2 (kN d n w) (sN d n w) (tN d w) l u i σ = opK d' v n := by
  obtain ⟨f, hf⟩ := NL_f h
  have ha := (NL_a h).2.2
  have hW := h.2.1.1
  have hE := h.2.2.1
  rw [CK_19] at ha
  simp only [List.all_cons, List.all_nil, Bool.and_eq_true, id, and_true] at ha
  obtain ⟨b0, b1, b2⟩ := ha
  have p1 := of_decide_eq_true b1
  have p2 := of_decide_eq_true b2
  have e5 : d' 5 n = nI 19 := by
    rw [hf 5 (by omega) (by omega)]
    simp (decide := true) only [FN, FNr, FNs, fA, fB, fC, f2, f1, fI, ↓reduceIte]
  have e7 : d' 7 n = NW d n w 3 := by
    rw [hf 7 (by omega) (by omega)]
    simp (decide := true) only [FN, FNr, FNs, fA, fB, fC, f2, f1, fI, ↓reduceIte]
  have e10 : d' 10 n = bI (TN d w 3) := by
    rw [hf 10 (by omega) (by omega)]
    simp (decide := true) only [FN, FNr, FNs, fA, fB, fC, f2, f1, fI, ↓reduceIte]
  have e8 : d' 8 n = NW d n w 4 := by
    rw [hf 8 (by omega) (by omega)]
    simp (decide := true) only [FN, FNr, FNs, fA, fB, fC, f2, f1, fI, ↓reduceIte]
  have e11 : d' 11 n = bI (TN d w 4) := by
    rw [hf 11 (by omega) (by omega)]
    simp (decide := true) only [FN, FNr, FNs, fA, fB, fC, f2, f1, fI, ↓reduceIte]
  have oA := oprn hE hW (c := 7) (p1.1) e7 e10
  have gA := gvn oA e10 v
  have oB := oprn hE hW (c := 8) (p2.1) e8 e11
  have gB := gvn oB e11 v
  have ek : (d' 5 n).toNatClampNeg = 19 := by rw [e5]; decide
  unfold outW opK oAv oBv oCv
  rw [ek]
  simp (decide := true) only [opM, ↓reduceIte]
  rw [hG 0 (by decide), gA, hG 1 (by decide), gB, oA.2.1]
  rfl
theorem NN_20 {d d' : HI} {n w : Nat} (h : NL d d' n w 20) (hl : HL) (v : Nat → Nat) (l u i σ : Nat) (hu : d' 13 n = nI u ∨ ¬ 20 = 3) (hll : d' 14 n = nI l ∨ ¬ 20 = 21) (hG : ∀ m, m < 2 → lwv hl 2 (kN d n w) (sN d n w) (tN d w) i σ m = wv d n w v (3 + m)) : outW hl 20 (nk d' n) 2 (kN d n w) (sN d n w) (tN d w) l u i σ = opK d' v n := by
  obtain ⟨f, hf⟩ := NL_f h
  have ha := (NL_a h).2.2
  have hW := h.2.1.1
  have hE := h.2.2.1
  rw [CK_20] at ha
  simp only [List.all_cons, List.all_nil, Bool.and_eq_true, id, and_true] at ha
  obtain ⟨b0, b1, b2⟩ := ha
  have p1 := of_decide_eq_true b1
  have p2 := of_decide_eq_true b2
  have e5 : d' 5 n = nI 20 := by
    rw [hf 5 (by omega) (by omega)]
    simp (decide := true) only [FN, FNr, FNs, fA, fB, fC, f2, f1, fI, ↓reduceIte]
  have e7 : d' 7 n = NW d n w 3 := by
    rw [hf 7 (by omega) (by omega)]
    simp (decide := true) only [FN, FNr, FNs, fA, fB, fC, f2, f1, fI, ↓reduceIte]
  have e10 : d' 10 n = bI (TN d w 3) := by
    rw [hf 10 (by omega) (by omega)]
    simp (decide := true) only [FN, FNr, FNs, fA, fB, fC, f2, f1, fI, ↓reduceIte]
  have e8 : d' 8 n = NW d n w 4 := by
    rw [hf 8 (by omega) (by omega)]
    simp (decide := true) only [FN, FNr, FNs, fA, fB, fC, f2, f1, fI, ↓reduceIte]
  have e11 : d' 11 n = bI (TN d w 4) := by
    rw [hf 11 (by omega) (by omega)]
    simp (decide := true) only [FN, FNr, FNs, fA, fB, fC, f2, f1, fI, ↓reduceIte]
  have oA := oprn hE hW (c := 7) (p1.1) e7 e10
  have gA := gvn oA e10 v
  have oB := oprn hE hW (c := 8) (p2.1) e8 e11
  have gB := gvn oB e11 v
  have ek : (d' 5 n).toNatClampNeg = 20 := by rw [e5]; decide
  unfold outW opK oAv oBv oCv
  rw [ek]
  simp (decide := true) only [opM, ↓reduceIte]
  rw [hG 0 (by decide), gA, hG 1 (by decide), gB, oB.2.1]
  rfl
theorem NN_21 {d d' : HI} {n w : Nat} (h : NL d d' n w 21) (hl : HL) (v : Nat → Nat) (l u i σ : Nat) (hu : d' 13 n = nI u ∨ ¬ 21 = 3) (hll : d' 14 n = nI l ∨ ¬ 21 = 21) (hG : ∀ m, m < 1 → lwv hl 1 (kN d n w) (sN d n w) (tN d w) i σ m = wv d n w v (3 + m)) : outW hl 21 (nk d' n) 1 (kN d n w) (sN d n w) (tN d w) l u i σ = opK d' v n := by
  obtain ⟨f, hf⟩ := NL_f h
  have ha := (NL_a h).2.2
  have hW := h.2.1.1
  have hE := h.2.2.1
  rw [CK_21] at ha
  simp only [List.all_cons, List.all_nil, Bool.and_eq_true, id, and_true] at ha
  obtain ⟨b0, b1, b2, b3⟩ := ha
  have p1 := of_decide_eq_true b1
  have p2 := of_decide_eq_true b2
  have p3 := of_decide_eq_true b3
  have e5 : d' 5 n = nI 21 := by
    rw [hf 5 (by omega) (by omega)]
    simp (decide := true) only [FN, FNr, FNs, fA, fB, fC, f2, f1, fI, ↓reduceIte]
  have e7 : d' 7 n = NW d n w 3 := by
    rw [hf 7 (by omega) (by omega)]
    simp (decide := true) only [FN, FNr, FNs, fA, fB, fC, f2, f1, fI, ↓reduceIte]
  have e10 : d' 10 n = bI (TN d w 3) := by
    rw [hf 10 (by omega) (by omega)]
    simp (decide := true) only [FN, FNr, FNs, fA, fB, fC, f2, f1, fI, ↓reduceIte]
  have oA := oprn hE hW (c := 7) (p1.1) e7 e10
  have gA := gvn oA e10 v
  have ek : (d' 5 n).toNatClampNeg = 21 := by rw [e5]; decide
  unfold outW opK oAv oBv oCv
  rw [ek]
  simp (decide := true) only [opM, ↓reduceIte]
  rw [hG 0 (by decide), gA, hll.resolve_right (by decide)]
theorem NN_22 {d d' : HI} {n w : Nat} (h : NL d d' n w 22) (hl : HL) (v : Nat → Nat) (l u i σ : Nat) (hu : d' 13 n = nI u ∨ ¬ 22 = 3) (hll : d' 14 n = nI l ∨ ¬ 22 = 21) (hG : ∀ m, m < 1 → lwv hl 1 (kN d n w) (sN d n w) (tN d w) i σ m = wv d n w v (3 + m)) : outW hl 22 (nk d' n) 1 (kN d n w) (sN d n w) (tN d w) l u i σ = opK d' v n := by
  obtain ⟨f, hf⟩ := NL_f h
  have ha := (NL_a h).2.2
  have hW := h.2.1.1
  have hE := h.2.2.1
  rw [CK_22] at ha
  simp only [List.all_cons, List.all_nil, Bool.and_eq_true, id, and_true] at ha
  obtain ⟨b0, b1, b2⟩ := ha
  have p1 := of_decide_eq_true b1
  have p2 := of_decide_eq_true b2
  have e5 : d' 5 n = nI 22 := by
    rw [hf 5 (by omega) (by omega)]
    simp (decide := true) only [FN, FNr, FNs, fA, fB, fC, f2, f1, fI, ↓reduceIte]
  have e7 : d' 7 n = NW d n w 3 := by
    rw [hf 7 (by omega) (by omega)]
    simp (decide := true) only [FN, FNr, FNs, fA, fB, fC, f2, f1, fI, ↓reduceIte]
  have e10 : d' 10 n = bI (TN d w 3) := by
    rw [hf 10 (by omega) (by omega)]
    simp (decide := true) only [FN, FNr, FNs, fA, fB, fC, f2, f1, fI, ↓reduceIte]
  have oA := oprn hE hW (c := 7) (p1.1) e7 e10
  have gA := gvn oA e10 v
  have ek : (d' 5 n).toNatClampNeg = 22 := by rw [e5]; decide
  unfold outW opK oAv oBv oCv
  rw [ek]
  simp (decide := true) only [opM, ↓reduceIte]
  rw [hG 0 (by decide), gA]
theorem NN_23 {d d' : HI} {n w : Nat} (h : NL d d' n w 23) (hl : HL) (v : Nat → Nat) (l u i σ : Nat) (hu : d' 13 n = nI u ∨ ¬ 23 = 3) (hll : d' 14 n = nI l ∨ ¬ 23 = 21) (hG : ∀ m, m < 1 → lwv hl 1 (kN d n w) (sN d n w) (tN d w) i σ m = wv d n w v (3 + m)) : outW hl 23 (nk d' n) 1 (kN d n w) (sN d n w) (tN d w) l u i σ = opK d' v n := by
  obtain ⟨f, hf⟩ := NL_f h
  have ha := (NL_a h).2.2
  have hW := h.2.1.1
  have hE := h.2.2.1
  rw [CK_23] at ha
  simp only [List.all_cons, List.all_nil, Bool.and_eq_true, id, and_true] at ha
  obtain ⟨b0, b1, b2⟩ := ha
  have p1 := of_decide_eq_true b1
  have p2 := of_decide_eq_true b2
  have e5 : d' 5 n = nI 23 := by
    rw [hf 5 (by omega) (by omega)]
    simp (decide := true) only [FN, FNr, FNs, fA, fB, fC, f2, f1, fI, ↓reduceIte]
  have e7 : d' 7 n = NW d n w 3 := by
    rw [hf 7 (by omega) (by omega)]
    simp (decide := true) only [FN, FNr, FNs, fA, fB, fC, f2, f1, fI, ↓reduceIte]
  have e10 : d' 10 n = bI (TN d w 3) := by
    rw [hf 10 (by omega) (by omega)]
    simp (decide := true) only [FN, FNr, FNs, fA, fB, fC, f2, f1, fI, ↓reduceIte]
  have oA := oprn hE hW (c := 7) (p1.1) e7 e10
  have gA := gvn oA e10 v
  have ek : (d' 5 n).toNatClampNeg = 23 := by rw [e5]; decide
  unfold outW opK oAv oBv oCv
  rw [ek]
  simp (decide := true) only [opM, ↓reduceIte]
  rw [hG 0 (by decide), gA, oA.2.1]
  rfl
theorem NN_24 {d d' : HI} {n w : Nat} (h : NL d d' n w 24) (hl : HL) (v : Nat → Nat) (l u i σ : Nat) (hu : d' 13 n = nI u ∨ ¬ 24 = 3) (hll : d' 14 n = nI l ∨ ¬ 24 = 21) (hG : ∀ m, m < 3 → lwv hl 3 (kN d n w) (sN d n w) (tN d w) i σ m = wv d n w v (3 + m)) : outW hl 24 (nk d' n) 3 (kN d n w) (sN d n w) (tN d w) l u i σ = opK d' v n := by
  obtain ⟨f, hf⟩ := NL_f h
  have ha := (NL_a h).2.2
  have hW := h.2.1.1
  have hE := h.2.2.1
  rw [CK_24] at ha
  simp only [List.all_cons, List.all_nil, Bool.and_eq_true, id, and_true] at ha
  obtain ⟨b0, b1, b2, b3⟩ := ha
  have p1 := of_decide_eq_true b1
  have p2 := of_decide_eq_true b2
  have p3 := of_decide_eq_true b3
  have e5 : d' 5 n = nI 24 := by
    rw [hf 5 (by omega) (by omega)]
    simp (decide := true) only [FN, FNr, FNs, fA, fB, fC, f2, f1, fI, ↓reduceIte]
  have e7 : d' 7 n = NW d n w 4 := by
    rw [hf 7 (by omega) (by omega)]
    simp (decide := true) only [FN, FNr, FNs, fA, fB, fC, f2, f1, fI, ↓reduceIte]
  have e10 : d' 10 n = bI (TN d w 4) := by
    rw [hf 10 (by omega) (by omega)]
    simp (decide := true) only [FN, FNr, FNs, fA, fB, fC, f2, f1, fI, ↓reduceIte]
  have e8 : d' 8 n = NW d n w 5 := by
    rw [hf 8 (by omega) (by omega)]
    simp (decide := true) only [FN, FNr, FNs, fA, fB, fC, f2, f1, fI, ↓reduceIte]
  have e11 : d' 11 n = bI (TN d w 5) := by
    rw [hf 11 (by omega) (by omega)]
    simp (decide := true) only [FN, FNr, FNs, fA, fB, fC, f2, f1, fI, ↓reduceIte]
  have e9 : d' 9 n = NW d n w 3 := by
    rw [hf 9 (by omega) (by omega)]
    simp (decide := true) only [FN, FNr, FNs, fA, fB, fC, f2, f1, fI, ↓reduceIte]
  have e12 : d' 12 n = bI (TN d w 3) := by
    rw [hf 12 (by omega) (by omega)]
    simp (decide := true) only [FN, FNr, FNs, fA, fB, fC, f2, f1, fI, ↓reduceIte]
  have oA := oprn hE hW (c := 7) (p2.1) e7 e10
  have gA := gvn oA e10 v
  have oB := oprn hE hW (c := 8) (p3.1) e8 e11
  have gB := gvn oB e11 v
  have oC := oprn hE hW (c := 9) (p1.1) e9 e12
  have gC := gvn oC e12 v
  have ek : (d' 5 n).toNatClampNeg = 24 := by rw [e5]; decide
  unfold outW opK oAv oBv oCv
  rw [ek]
  simp (decide := true) only [opM, ↓reduceIte]
  rw [hG 1 (by decide), gA, hG 2 (by decide), gB, hG 0 (by decide), gC]
theorem NN_25 {d d' : HI} {n w : Nat} (h : NL d d' n w 25) (hl : HL) (v : Nat → Nat) (l u i σ : Nat) (hu : d' 13 n = nI u ∨ ¬ 25 = 3) (hll : d' 14 n = nI l ∨ ¬ 25 = 21) (hG : ∀ m, m < 2 → lwv hl 2 (kN d n w) (sN d n w) (tN d w) i σ m = wv d n w v (3 + m)) : outW hl 25 (nk d' n) 2 (kN d n w) (sN d n w) (tN d w) l u i σ = opK d' v n := by
  obtain ⟨f, hf⟩ := NL_f h
  have ha := (NL_a h).2.2
  have hW := h.2.1.1
  have hE := h.2.2.1
  rw [CK_25] at ha
  simp only [List.all_cons, List.all_nil, Bool.and_eq_true, id, and_true] at ha
  obtain ⟨b0, b1, b2⟩ := ha
  have p1 := of_decide_eq_true b1
  have p2 := of_decide_eq_true b2
  have e5 : d' 5 n = nI 25 := by
    rw [hf 5 (by omega) (by omega)]
    simp (decide := true) only [FN, FNr, FNs, fA, fB, fC, f2, f1, fI, ↓reduceIte]
  have e7 : d' 7 n = NW d n w 3 := by
    rw [hf 7 (by omega) (by omega)]
    simp (decide := true) only [FN, FNr, FNs, fA, fB, fC, f2, f1, fI, ↓reduceIte]
  have e10 : d' 10 n = bI (TN d w 3) := by
    rw [hf 10 (by omega) (by omega)]
    simp (decide := true) only [FN, FNr, FNs, fA, fB, fC, f2, f1, fI, ↓reduceIte]
  have e8 : d' 8 n = NW d n w 4 := by
    rw [hf 8 (by omega) (by omega)]
    simp (decide := true) only [FN, FNr, FNs, fA, fB, fC, f2, f1, fI, ↓reduceIte]
  have e11 : d' 11 n = bI (TN d w 4) := by
    rw [hf 11 (by omega) (by omega)]
    simp (decide := true) only [FN, FNr, FNs, fA, fB, fC, f2, f1, fI, ↓reduceIte]
  have oA := oprn hE hW (c := 7) (p1.1) e7 e10
  have gA := gvn oA e10 v
  have oB := oprn hE hW (c := 8) (p2.1) e8 e11
  have gB := gvn oB e11 v
  have ek : (d' 5 n).toNatClampNeg = 25 := by rw [e5]; decide
  unfold outW opK oAv oBv oCv
  rw [ek]
  simp (decide := true) only [opM, ↓reduceIte]
  rw [hG 0 (by decide), gA, hG 1 (by decide), gB]
theorem NN_26 {d d' : HI} {n w : Nat} (h : NL d d' n w 26) (hl : HL) (v : Nat → Nat) (l u i σ : Nat) (hu : d' 13 n = nI u ∨ ¬ 26 = 3) (hll : d' 14 n = nI l ∨ ¬ 26 = 21) (hG : ∀ m, m < 3 → lwv hl 3 (kN d n w) (sN d n w) (tN d w) i σ m = wv d n w v (3 + m)) : outW hl 26 (nk d' n) 3 (kN d n w) (sN d n w) (tN d w) l u i σ = opK d' v n := by
  obtain ⟨f, hf⟩ := NL_f h
  have ha := (NL_a h).2.2
  have hW := h.2.1.1
  have hE := h.2.2.1
  rw [CK_26] at ha
  simp only [List.all_cons, List.all_nil, Bool.and_eq_true, id, and_true] at ha
  obtain ⟨b0, b1, b2, b3⟩ := ha
  have p1 := of_decide_eq_true b1
  have p2 := of_decide_eq_true b2
  have p3 := of_decide_eq_true b3
  have e5 : d' 5 n = nI 26 := by
    rw [hf 5 (by omega) (by omega)]
    simp (decide := true) only [FN, FNr, FNs, fA, fB, fC, f2, f1, fI, ↓reduceIte]
  have e7 : d' 7 n = NW d n w 3 := by
    rw [hf 7 (by omega) (by omega)]
    simp (decide := true) only [FN, FNr, FNs, fA, fB, fC, f2, f1, fI, ↓reduceIte]
  have e10 : d' 10 n = bI (TN d w 3) := by
    rw [hf 10 (by omega) (by omega)]
    simp (decide := true) only [FN, FNr, FNs, fA, fB, fC, f2, f1, fI, ↓reduceIte]
  have e8 : d' 8 n = NW d n w 4 := by
    rw [hf 8 (by omega) (by omega)]
    simp (decide := true) only [FN, FNr, FNs, fA, fB, fC, f2, f1, fI, ↓reduceIte]
  have e11 : d' 11 n = bI (TN d w 4) := by
    rw [hf 11 (by omega) (by omega)]
    simp (decide := true) only [FN, FNr, FNs, fA, fB, fC, f2, f1, fI, ↓reduceIte]
  have e9 : d' 9 n = NW d n w 5 := by
    rw [hf 9 (by omega) (by omega)]
    simp (decide := true) only [FN, FNr, FNs, fA, fB, fC, f2, f1, fI, ↓reduceIte]
  have e12 : d' 12 n = bI (TN d w 5) := by
    rw [hf 12 (by omega) (by omega)]
    simp (decide := true) only [FN, FNr, FNs, fA, fB, fC, f2, f1, fI, ↓reduceIte]
  have oA := oprn hE hW (c := 7) (p1.1) e7 e10
  have gA := gvn oA e10 v
  have oB := oprn hE hW (c := 8) (p2.1) e8 e11
  have gB := gvn oB e11 v
  have oC := oprn hE hW (c := 9) (p3.1) e9 e12
  have gC := gvn oC e12 v
  have ek : (d' 5 n).toNatClampNeg = 26 := by rw [e5]; decide
  unfold outW opK oAv oBv oCv
  rw [ek]
  simp (decide := true) only [opM, ↓reduceIte]
  rw [hG 0 (by decide), gA, hG 1 (by decide), gB, hG 2 (by decide), gC]
def cnx (κ : Nat) : Nat := if κ ≤ 3 then 0 else if κ ≤ 6 then 1 else if κ ≤ 20 then 2 else if κ ≤ 23 then 1 else if κ = 24 then 3 else if κ = 25 then 2 else 3
theorem NN_n {d d' : HI} {n w κ : Nat} (hκ : 3 ≤ κ ∧ κ ≤ 26) (h : NL d d' n w κ) (hl : HL) (v : Nat → Nat) (l u i σ : Nat) (hu : d' 13 n = nI u ∨ ¬ κ = 3) (hll : d' 14 n = nI l ∨ ¬ κ = 21) (hG : ∀ m, m < cnx κ → lwv hl (cnx κ) (kN d n w) (sN d n w) (tN d w) i σ m = wv d n w v (3 + m)) : outW hl κ (nk d' n) (cnx κ) (kN d n w) (sN d n w) (tN d w) l u i σ = opK d' v n := by
  have hc : κ = 3 ∨ κ = 4 ∨ κ = 5 ∨ κ = 6 ∨ κ = 7 ∨ κ = 8 ∨ κ = 9 ∨ κ = 10 ∨ κ = 11 ∨ κ = 12 ∨ κ = 13 ∨ κ = 14 ∨ κ = 15 ∨ κ = 16 ∨ κ = 17 ∨ κ = 18 ∨ κ = 19 ∨ κ = 20 ∨ κ = 21 ∨ κ = 22 ∨ κ = 23 ∨ κ = 24 ∨ κ = 25 ∨ κ = 26 := by omega
  rcases hc with rfl | rfl | rfl | rfl | rfl | rfl | rfl | rfl | rfl | rfl | rfl | rfl | rfl | rfl | rfl | rfl | rfl | rfl | rfl | rfl | rfl | rfl | rfl | rfl
  · exact NN_3 h hl v l u i σ hu hll hG
  · exact NN_4 h hl v l u i σ hu hll hG
  · exact NN_5 h hl v l u i σ hu hll hG
  · exact NN_6 h hl v l u i σ hu hll hG
  · exact NN_7 h hl v l u i σ hu hll hG
  · exact NN_8 h hl v l u i σ hu hll hG
  · exact NN_9 h hl v l u i σ hu hll hG
  · exact NN_10 h hl v l u i σ hu hll hG
  · exact NN_11 h hl v l u i σ hu hll hG
  · exact NN_12 h hl v l u i σ hu hll hG
  · exact NN_13 h hl v l u i σ hu hll hG
  · exact NN_14 h hl v l u i σ hu hll hG
  · exact NN_15 h hl v l u i σ hu hll hG
  · exact NN_16 h hl v l u i σ hu hll hG
  · exact NN_17 h hl v l u i σ hu hll hG
  · exact NN_18 h hl v l u i σ hu hll hG
  · exact NN_19 h hl v l u i σ hu hll hG
  · exact NN_20 h hl v l u i σ hu hll hG
  · exact NN_21 h hl v l u i σ hu hll hG
  · exact NN_22 h hl v l u i σ hu hll hG
  · exact NN_23 h hl v l u i σ hu hll hG
  · exact NN_24 h hl v l u i σ hu hll hG
  · exact NN_25 h hl v l u i σ hu hll hG
  · exact NN_26 h hl v l u i σ hu hll hG
