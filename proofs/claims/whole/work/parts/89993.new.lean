/-! a line that is taken (printed by wip/whole/pure/newline.py) -/
/-- what is known of a line that is not faulty, in the state d' behind it -/
def NL (d d' : HI) (n w κ : Nat) : Prop := TXw d w ∧ WF d n ∧ EQL d d' n ∧ κ ≤ 30 ∧ KO d w = nI κ ∧ (CKA d n w).all id = true ∧ ∃ f, ∀ c, 4 ≤ c → c ≤ 16 → d' c n = FNA d n w f c
theorem NL_k {d d' : HI} {n w κ : Nat} (h : NL d d' n w κ) : (KO d w).toNatClampNeg = κ := by
  rw [h.2.2.2.2.1]; exact nI_clamp (by have := h.2.2.2.1; omega)
theorem NL_f {d d' : HI} {n w κ : Nat} (h : NL d d' n w κ) : ∃ f, ∀ c, 4 ≤ c → c ≤ 16 → d' c n = FN d n w κ (fI (f1 (f1 f 4 (NU d w 0)) 5 (nI κ))) c := by
  have hk := NL_k h
  obtain ⟨_, _, _, _, hK, _, f, hf⟩ := h
  refine ⟨f, fun c h1 h2 => ?_⟩
  rw [hf c h1 h2]
  unfold FNA
  rw [hk, hK]
theorem NL_a {d d' : HI} {n w κ : Nat} (h : NL d d' n w κ) : c0K d n w = true ∧ c1K d n w = true ∧ (CK d n w κ).all id = true := by
  have hk := NL_k h
  have := h.2.2.2.2.2.1
  unfold CKA at this
  rw [hk] at this
  simp only [List.all_cons, Bool.and_eq_true, id] at this
  exact ⟨this.1, this.2.1, this.2.2⟩
theorem oprn {d d' : HI} {n w : Nat} (hE : EQL d d' n) (hW : WL d n) {c j : Nat} (q : 0 ≤ NW d n w j) (e : d' c n = NW d n w j) (et : d' (c + 3) n = bI (TN d w j)) : opr d' n c ∧ nk d' (oix d' n c) = ns d (NW d n w j) ∧ oix d' n c = (NW d n w j).toNatClampNeg := by
  have hn := hW.1
  rcases NW_full hW w j with ez | ⟨k, s, hk, hs, ek, hno, e6, e5, ht, en⟩
  · rw [ez] at q; exact absurd q (by decide)
  · have nk1 : nk d k = sc d s := by unfold nk; rw [e6, nI_clamp (by omega)]
    have nk2 : nk d' k = sc d s := by rw [nk_c hE hW hk hno, nk1]
    have eo : oix d' n c = k := by unfold oix; rw [e, ek, nI_clamp (by omega)]
    refine ⟨⟨k, hk, by rw [e, ek], by rw [hE 5 (by omega) (by omega) k hk]; exact hno, TN d w j, et, fun z => by rw [nk2]; exact ht z⟩, ?_, ?_⟩
    · rw [eo, nk2, en]
    · rw [eo, ek, nI_clamp (by omega)]
theorem nkn {d d' : HI} {n w : Nat} (hE : EQL d d' n) (hW : WL d n) (q : 0 ≤ SW d n w 2) (e : d' 6 n = SW d n w 2) : nk d' n = sc d (SW d n w 2).toNatClampNeg := by
  obtain ⟨s, hs, es, e5, ec, _⟩ := swf hW w 2 q
  unfold nk
  rw [e, ec, sc_c hE hs]
theorem LK_0 {d d' : HI} {n w : Nat} (h : NL d d' n w 0) : LK d' 0 n := by
  obtain ⟨f, hf⟩ := NL_f h
  have ha := (NL_a h).2.2
  have hW := h.2.1.1
  have hE := h.2.2.1
  refine ⟨fun q => absurd q (by decide), fun q => absurd q (by decide), fun q1 q2 => absurd q1 (by decide), fun q => absurd q (by decide), fun q => absurd q (by decide), fun q => absurd q (by decide), fun q => absurd q (by decide), fun q => absurd q (by decide), fun q1 q2 => absurd q1 (by decide), fun q => absurd q (by decide), fun q => absurd q (by decide), fun q => absurd q (by decide), fun q => absurd q (by decide), fun q => absurd q (by decide), fun q => absurd q (by decide), fun q => absurd q (by decide), fun q => absurd q (by decide), fun q => absurd q (by decide), fun q => absurd q (by decide)⟩
theorem LK_1 {d d' : HI} {n w : Nat} (h : NL d d' n w 1) : LK d' 1 n := by
  obtain ⟨f, hf⟩ := NL_f h
  have ha := (NL_a h).2.2
  have hW := h.2.1.1
  have hE := h.2.2.1
  rw [CK_1] at ha
  simp only [List.all_cons, List.all_nil, Bool.and_eq_true, id, and_true] at ha
  have e6 : d' 6 n = SW d n w 2 := by
    rw [hf 6 (by omega) (by omega)]
    simp (decide := true) only [FN, FNr, FNs, fA, fB, fC, f2, f1, fI, ↓reduceIte]
  have hb := of_decide_eq_true ha
  have kn := nkn hE hW hb.1 e6
  refine ⟨fun _ => ?_, fun q => absurd q (by decide), fun q1 q2 => absurd q1 (by decide), fun q => absurd q (by decide), fun q => absurd q (by decide), fun q => absurd q (by decide), fun q => absurd q (by decide), fun q => absurd q (by decide), fun q1 q2 => absurd q1 (by decide), fun q => absurd q (by decide), fun q => absurd q (by decide), fun q => absurd q (by decide), fun q => absurd q (by decide), fun q => absurd q (by decide), fun q => absurd q (by decide), fun q => absurd q (by decide), fun q => absurd q (by decide), fun q => absurd q (by decide), fun q => absurd q (by decide)⟩
  · rw [kn]; exact hb.2.1.resolve_left (by decide)
theorem LK_2 {d d' : HI} {n w : Nat} (h : NL d d' n w 2) : LK d' 2 n := by
  obtain ⟨f, hf⟩ := NL_f h
  have ha := (NL_a h).2.2
  have hW := h.2.1.1
  have hE := h.2.2.1
  rw [CK_2] at ha
  simp only [List.all_cons, List.all_nil, Bool.and_eq_true, id, and_true] at ha
  have e6 : d' 6 n = SW d n w 2 := by
    rw [hf 6 (by omega) (by omega)]
    simp (decide := true) only [FN, FNr, FNs, fA, fB, fC, f2, f1, fI, ↓reduceIte]
  have hb := of_decide_eq_true ha
  have kn := nkn hE hW hb.1 e6
  refine ⟨fun q => absurd q (by decide), fun q => absurd q (by decide), fun q1 q2 => absurd q1 (by decide), fun q => absurd q (by decide), fun q => absurd q (by decide), fun q => absurd q (by decide), fun q => absurd q (by decide), fun q => absurd q (by decide), fun q1 q2 => absurd q1 (by decide), fun q => absurd q (by decide), fun q => absurd q (by decide), fun q => absurd q (by decide), fun q => absurd q (by decide), fun q => absurd q (by decide), fun q => absurd q (by decide), fun q => absurd q (by decide), fun q => absurd q (by decide), fun q => absurd q (by decide), fun q => absurd q (by decide)⟩
theorem LK_3 {d d' : HI} {n w : Nat} (h : NL d d' n w 3) : LK d' 3 n := by
  obtain ⟨f, hf⟩ := NL_f h
  have ha := (NL_a h).2.2
  have hW := h.2.1.1
  have hE := h.2.2.1
  rw [CK_3] at ha
  simp only [List.all_cons, List.all_nil, Bool.and_eq_true, id, and_true] at ha
  have e6 : d' 6 n = SW d n w 2 := by
    rw [hf 6 (by omega) (by omega)]
    simp (decide := true) only [FN, FNr, FNs, fA, fB, fC, f2, f1, fI, ↓reduceIte]
  have e7 : d' 7 n = -1 := by
    rw [hf 7 (by omega) (by omega)]
    simp (decide := true) only [FN, FNr, FNs, fA, fB, fC, f2, f1, fI, ↓reduceIte]
  have e8 : d' 8 n = -1 := by
    rw [hf 8 (by omega) (by omega)]
    simp (decide := true) only [FN, FNr, FNs, fA, fB, fC, f2, f1, fI, ↓reduceIte]
  have e13 : d' 13 n = NU d w 3 := by
    rw [hf 13 (by omega) (by omega)]
    simp (decide := true) only [FN, FNr, FNs, fA, fB, fC, f2, f1, fI, ↓reduceIte]
  obtain ⟨b0, b1⟩ := ha
  have hs := C2_t b0
  have kn := nkn hE hW hs.1 e6
  have hsx := Scx hW w hs.1
  have hok := hs.2
  simp (decide := true) only [Sok, ↓reduceIte] at hok
  have p1 := of_decide_eq_true b1
  refine ⟨fun q => absurd q (by decide), fun _ => ?_, fun q1 q2 => absurd q1 (by decide), fun q => absurd q (by decide), fun q => absurd q (by decide), fun q => absurd q (by decide), fun q => absurd q (by decide), fun q => absurd q (by decide), fun q1 q2 => absurd q1 (by decide), fun q => absurd q (by decide), fun q => absurd q (by decide), fun q => absurd q (by decide), fun q => absurd q (by decide), fun q => absurd q (by decide), fun q => absurd q (by decide), fun q => absurd q (by decide), fun q => absurd q (by decide), fun q => absurd q (by decide), fun q => absurd q (by decide)⟩
  · have z := p1
    rcases NU_cases d w 3 with ez | ⟨v, hv, ev, _⟩
    · rw [ez] at z; exact absurd z.1 (by decide)
    · refine ⟨by rw [kn]; omega, e7, e8, v, ?_, by rw [e13, ev]⟩
      have z2 := z.2
      have hp : 2 ^ sc d (SW d n w 2).toNatClampNeg ≤ 2 ^ 3 := Nat.pow_le_pow_right (by omega) (by omega)
      rw [ev, nI_ltI (by omega) (by omega)] at z2
      rw [kn]; exact z2
theorem LK_4 {d d' : HI} {n w : Nat} (h : NL d d' n w 4) : LK d' 4 n := by
  obtain ⟨f, hf⟩ := NL_f h
  have ha := (NL_a h).2.2
  have hW := h.2.1.1
  have hE := h.2.2.1
  rw [CK_4] at ha
  simp only [List.all_cons, List.all_nil, Bool.and_eq_true, id, and_true] at ha
  have e6 : d' 6 n = SW d n w 2 := by
    rw [hf 6 (by omega) (by omega)]
    simp (decide := true) only [FN, FNr, FNs, fA, fB, fC, f2, f1, fI, ↓reduceIte]
  have e7 : d' 7 n = NW d n w 3 := by
    rw [hf 7 (by omega) (by omega)]
    simp (decide := true) only [FN, FNr, FNs, fA, fB, fC, f2, f1, fI, ↓reduceIte]
  have e10 : d' 10 n = bI (TN d w 3) := by
    rw [hf 10 (by omega) (by omega)]
    simp (decide := true) only [FN, FNr, FNs, fA, fB, fC, f2, f1, fI, ↓reduceIte]
  have e8 : d' 8 n = -1 := by
    rw [hf 8 (by omega) (by omega)]
    simp (decide := true) only [FN, FNr, FNs, fA, fB, fC, f2, f1, fI, ↓reduceIte]
  obtain ⟨b0, b1⟩ := ha
  have hs := C2_t b0
  have kn := nkn hE hW hs.1 e6
  have hsx := Scx hW w hs.1
  have hok := hs.2
  simp (decide := true) only [Sok, ↓reduceIte] at hok
  have p1 := of_decide_eq_true b1
  have oA := oprn hE hW (c := 7) (p1.1) e7 e10
  have nA := nsr hW w 3 (p1.1)
  refine ⟨fun q => absurd q (by decide), fun q => absurd q (by decide), fun _ _ => oA.1, fun _ => e8, fun q => absurd q (by decide), fun q => absurd q (by decide), fun _ => ?_, fun q => absurd q (by decide), fun q1 q2 => absurd q1 (by decide), fun q => absurd q (by decide), fun q => absurd q (by decide), fun q => absurd q (by decide), fun q => absurd q (by decide), fun q => absurd q (by decide), fun q => absurd q (by decide), fun q => absurd q (by decide), fun q => absurd q (by decide), fun q => absurd q (by decide), fun q => absurd q (by decide)⟩
  · rw [kn, oA.2.1]; exact ⟨by omega, p1.2⟩
theorem LK_5 {d d' : HI} {n w : Nat} (h : NL d d' n w 5) : LK d' 5 n := by
  obtain ⟨f, hf⟩ := NL_f h
  have ha := (NL_a h).2.2
  have hW := h.2.1.1
  have hE := h.2.2.1
  rw [CK_5] at ha
  simp only [List.all_cons, List.all_nil, Bool.and_eq_true, id, and_true] at ha
  have e6 : d' 6 n = SW d n w 2 := by
    rw [hf 6 (by omega) (by omega)]
    simp (decide := true) only [FN, FNr, FNs, fA, fB, fC, f2, f1, fI, ↓reduceIte]
  have e7 : d' 7 n = NW d n w 3 := by
    rw [hf 7 (by omega) (by omega)]
    simp (decide := true) only [FN, FNr, FNs, fA, fB, fC, f2, f1, fI, ↓reduceIte]
  have e10 : d' 10 n = bI (TN d w 3) := by
    rw [hf 10 (by omega) (by omega)]
    simp (decide := true) only [FN, FNr, FNs, fA, fB, fC, f2, f1, fI, ↓reduceIte]
  have e8 : d' 8 n = -1 := by
    rw [hf 8 (by omega) (by omega)]
    simp (decide := true) only [FN, FNr, FNs, fA, fB, fC, f2, f1, fI, ↓reduceIte]
  obtain ⟨b0, b1⟩ := ha
  have hs := C2_t b0
  have kn := nkn hE hW hs.1 e6
  have hsx := Scx hW w hs.1
  have hok := hs.2
  simp (decide := true) only [Sok, ↓reduceIte] at hok
  have p1 := of_decide_eq_true b1
  have oA := oprn hE hW (c := 7) (p1.1) e7 e10
  have nA := nsr hW w 3 (p1.1)
  refine ⟨fun q => absurd q (by decide), fun q => absurd q (by decide), fun _ _ => oA.1, fun _ => e8, fun q => absurd q (by decide), fun q => absurd q (by decide), fun _ => ?_, fun q => absurd q (by decide), fun q1 q2 => absurd q1 (by decide), fun q => absurd q (by decide), fun q => absurd q (by decide), fun q => absurd q (by decide), fun q => absurd q (by decide), fun q => absurd q (by decide), fun q => absurd q (by decide), fun q => absurd q (by decide), fun q => absurd q (by decide), fun q => absurd q (by decide), fun q => absurd q (by decide)⟩
  · rw [kn, oA.2.1]; exact ⟨by omega, p1.2⟩
theorem LK_6 {d d' : HI} {n w : Nat} (h : NL d d' n w 6) : LK d' 6 n := by
  obtain ⟨f, hf⟩ := NL_f h
  have ha := (NL_a h).2.2
  have hW := h.2.1.1
  have hE := h.2.2.1
  rw [CK_6] at ha
  simp only [List.all_cons, List.all_nil, Bool.and_eq_true, id, and_true] at ha
  have e6 : d' 6 n = SW d n w 2 := by
    rw [hf 6 (by omega) (by omega)]
    simp (decide := true) only [FN, FNr, FNs, fA, fB, fC, f2, f1, fI, ↓reduceIte]
  have e7 : d' 7 n = NW d n w 3 := by
    rw [hf 7 (by omega) (by omega)]
    simp (decide := true) only [FN, FNr, FNs, fA, fB, fC, f2, f1, fI, ↓reduceIte]
  have e10 : d' 10 n = bI (TN d w 3) := by
    rw [hf 10 (by omega) (by omega)]
    simp (decide := true) only [FN, FNr, FNs, fA, fB, fC, f2, f1, fI, ↓reduceIte]
  have e8 : d' 8 n = -1 := by
    rw [hf 8 (by omega) (by omega)]
    simp (decide := true) only [FN, FNr, FNs, fA, fB, fC, f2, f1, fI, ↓reduceIte]
  obtain ⟨b0, b1⟩ := ha
  have hs := C2_t b0
  have kn := nkn hE hW hs.1 e6
  have hsx := Scx hW w hs.1
  have hok := hs.2
  simp (decide := true) only [Sok, ↓reduceIte] at hok
  have p1 := of_decide_eq_true b1
  have oA := oprn hE hW (c := 7) (p1.1) e7 e10
  have nA := nsr hW w 3 (p1.1)
  refine ⟨fun q => absurd q (by decide), fun q => absurd q (by decide), fun _ _ => oA.1, fun _ => e8, fun q => absurd q (by decide), fun q => absurd q (by decide), fun q => absurd q (by decide), fun _ => ?_, fun q1 q2 => absurd q1 (by decide), fun q => absurd q (by decide), fun q => absurd q (by decide), fun q => absurd q (by decide), fun q => absurd q (by decide), fun q => absurd q (by decide), fun q => absurd q (by decide), fun q => absurd q (by decide), fun q => absurd q (by decide), fun q => absurd q (by decide), fun q => absurd q (by decide)⟩
  · rw [kn, oA.2.1]; exact ⟨hok, p1.2⟩
theorem LK_7 {d d' : HI} {n w : Nat} (h : NL d d' n w 7) : LK d' 7 n := by
  obtain ⟨f, hf⟩ := NL_f h
  have ha := (NL_a h).2.2
  have hW := h.2.1.1
  have hE := h.2.2.1
  rw [CK_7] at ha
  simp only [List.all_cons, List.all_nil, Bool.and_eq_true, id, and_true] at ha
  have e6 : d' 6 n = SW d n w 2 := by
    rw [hf 6 (by omega) (by omega)]
    simp (decide := true) only [FN, FNr, FNs, fA, fB, fC, f2, f1, fI, ↓reduceIte]
  have e7 : d' 7 n = NW d n w 3 := by
    rw [hf 7 (by omega) (by omega)]
    simp (decide := true) only [FN, FNr, FNs, fA, fB, fC, f2, f1, fI, ↓reduceIte]
  have e10 : d' 10 n = bI (TN d w 3) := by
    rw [hf 10 (by omega) (by omega)]
    simp (decide := true) only [FN, FNr, FNs, fA, fB, fC, f2, f1, fI, ↓reduceIte]
  have e8 : d' 8 n = NW d n w 4 := by
    rw [hf 8 (by omega) (by omega)]
    simp (decide := true) only [FN, FNr, FNs, fA, fB, fC, f2, f1, fI, ↓reduceIte]
  have e11 : d' 11 n = bI (TN d w 4) := by
    rw [hf 11 (by omega) (by omega)]
    simp (decide := true) only [FN, FNr, FNs, fA, fB, fC, f2, f1, fI, ↓reduceIte]
  obtain ⟨b0, b1, b2⟩ := ha
  have hs := C2_t b0
  have kn := nkn hE hW hs.1 e6
  have hsx := Scx hW w hs.1
  have hok := hs.2
  simp (decide := true) only [Sok, ↓reduceIte] at hok
  have p1 := of_decide_eq_true b1
  have p2 := of_decide_eq_true b2
  have oA := oprn hE hW (c := 7) (p1.1) e7 e10
  have oB := oprn hE hW (c := 8) (p2.1) e8 e11
  have nA := nsr hW w 3 (p1.1)
  have nB := nsr hW w 4 (p2.1)
  refine ⟨fun q => absurd q (by decide), fun q => absurd q (by decide), fun _ _ => oA.1, fun q => absurd q (by decide), fun _ => oB.1, fun q => absurd q (by decide), fun q => absurd q (by decide), fun q => absurd q (by decide), fun _ _ => ?_, fun q => absurd q (by decide), fun q => absurd q (by decide), fun q => absurd q (by decide), fun q => absurd q (by decide), fun q => absurd q (by decide), fun q => absurd q (by decide), fun q => absurd q (by decide), fun q => absurd q (by decide), fun q => absurd q (by decide), fun q => absurd q (by decide)⟩
  · rw [kn, oA.2.1, oB.2.1]; exact ⟨by omega, p1.2, p2.2⟩
theorem LK_8 {d d' : HI} {n w : Nat} (h : NL d d' n w 8) : LK d' 8 n := by
  obtain ⟨f, hf⟩ := NL_f h
  have ha := (NL_a h).2.2
  have hW := h.2.1.1
  have hE := h.2.2.1
  rw [CK_8] at ha
  simp only [List.all_cons, List.all_nil, Bool.and_eq_true, id, and_true] at ha
  have e6 : d' 6 n = SW d n w 2 := by
    rw [hf 6 (by omega) (by omega)]
    simp (decide := true) only [FN, FNr, FNs, fA, fB, fC, f2, f1, fI, ↓reduceIte]
  have e7 : d' 7 n = NW d n w 3 := by
    rw [hf 7 (by omega) (by omega)]
    simp (decide := true) only [FN, FNr, FNs, fA, fB, fC, f2, f1, fI, ↓reduceIte]
  have e10 : d' 10 n = bI (TN d w 3) := by
    rw [hf 10 (by omega) (by omega)]
    simp (decide := true) only [FN, FNr, FNs, fA, fB, fC, f2, f1, fI, ↓reduceIte]
  have e8 : d' 8 n = NW d n w 4 := by
    rw [hf 8 (by omega) (by omega)]
    simp (decide := true) only [FN, FNr, FNs, fA, fB, fC, f2, f1, fI, ↓reduceIte]
  have e11 : d' 11 n = bI (TN d w 4) := by
    rw [hf 11 (by omega) (by omega)]
    simp (decide := true) only [FN, FNr, FNs, fA, fB, fC, f2, f1, fI, ↓reduceIte]
  obtain ⟨b0, b1, b2⟩ := ha
  have hs := C2_t b0
  have kn := nkn hE hW hs.1 e6
  have hsx := Scx hW w hs.1
  have hok := hs.2
  simp (decide := true) only [Sok, ↓reduceIte] at hok
  have p1 := of_decide_eq_true b1
  have p2 := of_decide_eq_true b2
  have oA := oprn hE hW (c := 7) (p1.1) e7 e10
  have oB := oprn hE hW (c := 8) (p2.1) e8 e11
  have nA := nsr hW w 3 (p1.1)
  have nB := nsr hW w 4 (p2.1)
  refine ⟨fun q => absurd q (by decide), fun q => absurd q (by decide), fun _ _ => oA.1, fun q => absurd q (by decide), fun _ => oB.1, fun q => absurd q (by decide), fun q => absurd q (by decide), fun q => absurd q (by decide), fun _ _ => ?_, fun q => absurd q (by decide), fun q => absurd q (by decide), fun q => absurd q (by decide), fun q => absurd q (by decide), fun q => absurd q (by decide), fun q => absurd q (by decide), fun q => absurd q (by decide), fun q => absurd q (by decide), fun q => absurd q (by decide), fun q => absurd q (by decide)⟩
  · rw [kn, oA.2.1, oB.2.1]; exact ⟨by omega, p1.2, p2.2⟩
theorem LK_9 {d d' : HI} {n w : Nat} (h : NL d d' n w 9) : LK d' 9 n := by
  obtain ⟨f, hf⟩ := NL_f h
  have ha := (NL_a h).2.2
  have hW := h.2.1.1
  have hE := h.2.2.1
  rw [CK_9] at ha
  simp only [List.all_cons, List.all_nil, Bool.and_eq_true, id, and_true] at ha
  have e6 : d' 6 n = SW d n w 2 := by
    rw [hf 6 (by omega) (by omega)]
    simp (decide := true) only [FN, FNr, FNs, fA, fB, fC, f2, f1, fI, ↓reduceIte]
  have e7 : d' 7 n = NW d n w 3 := by
    rw [hf 7 (by omega) (by omega)]
    simp (decide := true) only [FN, FNr, FNs, fA, fB, fC, f2, f1, fI, ↓reduceIte]
  have e10 : d' 10 n = bI (TN d w 3) := by
    rw [hf 10 (by omega) (by omega)]
    simp (decide := true) only [FN, FNr, FNs, fA, fB, fC, f2, f1, fI, ↓reduceIte]
  have e8 : d' 8 n = NW d n w 4 := by
    rw [hf 8 (by omega) (by omega)]
    simp (decide := true) only [FN, FNr, FNs, fA, fB, fC, f2, f1, fI, ↓reduceIte]
  have e11 : d' 11 n = bI (TN d w 4) := by
    rw [hf 11 (by omega) (by omega)]
    simp (decide := true) only [FN, FNr, FNs, fA, fB, fC, f2, f1, fI, ↓reduceIte]
  obtain ⟨b0, b1, b2⟩ := ha
  have hs := C2_t b0
  have kn := nkn hE hW hs.1 e6
  have hsx := Scx hW w hs.1
  have hok := hs.2
  simp (decide := true) only [Sok, ↓reduceIte] at hok
  have p1 := of_decide_eq_true b1
  have p2 := of_decide_eq_true b2
  have oA := oprn hE hW (c := 7) (p1.1) e7 e10
  have oB := oprn hE hW (c := 8) (p2.1) e8 e11
  have nA := nsr hW w 3 (p1.1)
  have nB := nsr hW w 4 (p2.1)
  refine ⟨fun q => absurd q (by decide), fun q => absurd q (by decide), fun _ _ => oA.1, fun q => absurd q (by decide), fun _ => oB.1, fun q => absurd q (by decide), fun q => absurd q (by decide), fun q => absurd q (by decide), fun _ _ => ?_, fun q => absurd q (by decide), fun q => absurd q (by decide), fun q => absurd q (by decide), fun q => absurd q (by decide), fun q => absurd q (by decide), fun q => absurd q (by decide), fun q => absurd q (by decide), fun q => absurd q (by decide), fun q => absurd q (by decide), fun q => absurd q (by decide)⟩
  · rw [kn, oA.2.1, oB.2.1]; exact ⟨by omega, p1.2, p2.2⟩
theorem LK_10 {d d' : HI} {n w : Nat} (h : NL d d' n w 10) : LK d' 10 n := by
  obtain ⟨f, hf⟩ := NL_f h
  have ha := (NL_a h).2.2
  have hW := h.2.1.1
  have hE := h.2.2.1
  rw [CK_10] at ha
  simp only [List.all_cons, List.all_nil, Bool.and_eq_true, id, and_true] at ha
  have e6 : d' 6 n = SW d n w 2 := by
    rw [hf 6 (by omega) (by omega)]
    simp (decide := true) only [FN, FNr, FNs, fA, fB, fC, f2, f1, fI, ↓reduceIte]
  have e7 : d' 7 n = NW d n w 3 := by
    rw [hf 7 (by omega) (by omega)]
    simp (decide := true) only [FN, FNr, FNs, fA, fB, fC, f2, f1, fI, ↓reduceIte]
  have e10 : d' 10 n = bI (TN d w 3) := by
    rw [hf 10 (by omega) (by omega)]
    simp (decide := true) only [FN, FNr, FNs, fA, fB, fC, f2, f1, fI, ↓reduceIte]
  have e8 : d' 8 n = NW d n w 4 := by
    rw [hf 8 (by omega) (by omega)]
    simp (decide := true) only [FN, FNr, FNs, fA, fB, fC, f2, f1, fI, ↓reduceIte]
  have e11 : d' 11 n = bI (TN d w 4) := by
    rw [hf 11 (by omega) (by omega)]
    simp (decide := true) only [FN, FNr, FNs, fA, fB, fC, f2, f1, fI, ↓reduceIte]
  obtain ⟨b0, b1, b2⟩ := ha
  have hs := C2_t b0
  have kn := nkn hE hW hs.1 e6
  have hsx := Scx hW w hs.1
  have hok := hs.2
  simp (decide := true) only [Sok, ↓reduceIte] at hok
  have p1 := of_decide_eq_true b1
  have p2 := of_decide_eq_true b2
  have oA := oprn hE hW (c := 7) (p1.1) e7 e10
  have oB := oprn hE hW (c := 8) (p2.1) e8 e11
  have nA := nsr hW w 3 (p1.1)
  have nB := nsr hW w 4 (p2.1)
  refine ⟨fun q => absurd q (by decide), fun q => absurd q (by decide), fun _ _ => oA.1, fun q => absurd q (by decide), fun _ => oB.1, fun q => absurd q (by decide), fun q => absurd q (by decide), fun q => absurd q (by decide), fun _ _ => ?_, fun q => absurd q (by decide), fun q => absurd q (by decide), fun q => absurd q (by decide), fun q => absurd q (by decide), fun q => absurd q (by decide), fun q => absurd q (by decide), fun q => absurd q (by decide), fun q => absurd q (by decide), fun q => absurd q (by decide), fun q => absurd q (by decide)⟩
  · rw [kn, oA.2.1, oB.2.1]; exact ⟨by omega, p1.2, p2.2⟩
theorem LK_11 {d d' : HI} {n w : Nat} (h : NL d d' n w 11) : LK d' 11 n := by
  obtain ⟨f, hf⟩ := NL_f h
  have ha := (NL_a h).2.2
  have hW := h.2.1.1
  have hE := h.2.2.1
  rw [CK_11] at ha
  simp only [List.all_cons, List.all_nil, Bool.and_eq_true, id, and_true] at ha
  have e6 : d' 6 n = SW d n w 2 := by
    rw [hf 6 (by omega) (by omega)]
    simp (decide := true) only [FN, FNr, FNs, fA, fB, fC, f2, f1, fI, ↓reduceIte]
  have e7 : d' 7 n = NW d n w 3 := by
    rw [hf 7 (by omega) (by omega)]
    simp (decide := true) only [FN, FNr, FNs, fA, fB, fC, f2, f1, fI, ↓reduceIte]
  have e10 : d' 10 n = bI (TN d w 3) := by
    rw [hf 10 (by omega) (by omega)]
    simp (decide := true) only [FN, FNr, FNs, fA, fB, fC, f2, f1, fI, ↓reduceIte]
  have e8 : d' 8 n = NW d n w 4 := by
    rw [hf 8 (by omega) (by omega)]
    simp (decide := true) only [FN, FNr, FNs, fA, fB, fC, f2, f1, fI, ↓reduceIte]
  have e11 : d' 11 n = bI (TN d w 4) := by
    rw [hf 11 (by omega) (by omega)]
    simp (decide := true) only [FN, FNr, FNs, fA, fB, fC, f2, f1, fI, ↓reduceIte]
  obtain ⟨b0, b1, b2⟩ := ha
  have hs := C2_t b0
  have kn := nkn hE hW hs.1 e6
  have hsx := Scx hW w hs.1
  have hok := hs.2
  simp (decide := true) only [Sok, ↓reduceIte] at hok
  have p1 := of_decide_eq_true b1
  have p2 := of_decide_eq_true b2
  have oA := oprn hE hW (c := 7) (p1.1) e7 e10
  have oB := oprn hE hW (c := 8) (p2.1) e8 e11
  have nA := nsr hW w 3 (p1.1)
  have nB := nsr hW w 4 (p2.1)
  refine ⟨fun q => absurd q (by decide), fun q => absurd q (by decide), fun _ _ => oA.1, fun q => absurd q (by decide), fun _ => oB.1, fun q => absurd q (by decide), fun q => absurd q (by decide), fun q => absurd q (by decide), fun _ _ => ?_, fun q => absurd q (by decide), fun q => absurd q (by decide), fun q => absurd q (by decide), fun q => absurd q (by decide), fun q => absurd q (by decide), fun q => absurd q (by decide), fun q => absurd q (by decide), fun q => absurd q (by decide), fun q => absurd q (by decide), fun q => absurd q (by decide)⟩
  · rw [kn, oA.2.1, oB.2.1]; exact ⟨by omega, p1.2, p2.2⟩
theorem LK_12 {d d' : HI} {n w : Nat} (h : NL d d' n w 12) : LK d' 12 n := by
  obtain ⟨f, hf⟩ := NL_f h
  have ha := (NL_a h).2.2
  have hW := h.2.1.1
  have hE := h.2.2.1
  rw [CK_12] at ha
  simp only [List.all_cons, List.all_nil, Bool.and_eq_true, id, and_true] at ha
  have e6 : d' 6 n = SW d n w 2 := by
    rw [hf 6 (by omega) (by omega)]
    simp (decide := true) only [FN, FNr, FNs, fA, fB, fC, f2, f1, fI, ↓reduceIte]
  have e7 : d' 7 n = NW d n w 3 := by
    rw [hf 7 (by omega) (by omega)]
    simp (decide := true) only [FN, FNr, FNs, fA, fB, fC, f2, f1, fI, ↓reduceIte]
  have e10 : d' 10 n = bI (TN d w 3) := by
    rw [hf 10 (by omega) (by omega)]
    simp (decide := true) only [FN, FNr, FNs, fA, fB, fC, f2, f1, fI, ↓reduceIte]
  have e8 : d' 8 n = NW d n w 4 := by
    rw [hf 8 (by omega) (by omega)]
    simp (decide := true) only [FN, FNr, FNs, fA, fB, fC, f2, f1, fI, ↓reduceIte]
  have e11 : d' 11 n = bI (TN d w 4) := by
    rw [hf 11 (by omega) (by omega)]
    simp (decide := true) only [FN, FNr, FNs, fA, fB, fC, f2, f1, fI, ↓reduceIte]
  obtain ⟨b0, b1, b2⟩ := ha
  have hs := C2_t b0
  have kn := nkn hE hW hs.1 e6
  have hsx := Scx hW w hs.1
  have hok := hs.2
  simp (decide := true) only [Sok, ↓reduceIte] at hok
  have p1 := of_decide_eq_true b1
  have p2 := of_decide_eq_true b2
  have oA := oprn hE hW (c := 7) (p1.1) e7 e10
  have oB := oprn hE hW (c := 8) (p2.1) e8 e11
  have nA := nsr hW w 3 (p1.1)
  have nB := nsr hW w 4 (p2.1)
  refine ⟨fun q => absurd q (by decide), fun q => absurd q (by decide), fun _ _ => oA.1, fun q => absurd q (by decide), fun _ => oB.1, fun q => absurd q (by decide), fun q => absurd q (by decide), fun q => absurd q (by decide), fun _ _ => ?_, fun q => absurd q (by decide), fun q => absurd q (by decide), fun q => absurd q (by decide), fun q => absurd q (by decide), fun q => absurd q (by decide), fun q => absurd q (by decide), fun q => absurd q (by decide), fun q => absurd q (by decide), fun q => absurd q (by decide), fun q => absurd q (by decide)⟩
  · rw [kn, oA.2.1, oB.2.1]; exact ⟨by omega, p1.2, p2.2⟩
theorem LK_13 {d d' : HI} {n w : Nat} (h : NL d d' n w 13) : LK d' 13 n := by
  obtain ⟨f, hf⟩ := NL_f h
  have ha := (NL_a h).2.2
  have hW := h.2.1.1
  have hE := h.2.2.1
  rw [CK_13] at ha
  simp only [List.all_cons, List.all_nil, Bool.and_eq_true, id, and_true] at ha
  have e6 : d' 6 n = SW d n w 2 := by
    rw [hf 6 (by omega) (by omega)]
    simp (decide := true) only [FN, FNr, FNs, fA, fB, fC, f2, f1, fI, ↓reduceIte]
  have e7 : d' 7 n = NW d n w 3 := by
    rw [hf 7 (by omega) (by omega)]
    simp (decide := true) only [FN, FNr, FNs, fA, fB, fC, f2, f1, fI, ↓reduceIte]
  have e10 : d' 10 n = bI (TN d w 3) := by
    rw [hf 10 (by omega) (by omega)]
    simp (decide := true) only [FN, FNr, FNs, fA, fB, fC, f2, f1, fI, ↓reduceIte]
  have e8 : d' 8 n = NW d n w 4 := by
    rw [hf 8 (by omega) (by omega)]
    simp (decide := true) only [FN, FNr, FNs, fA, fB, fC, f2, f1, fI, ↓reduceIte]
  have e11 : d' 11 n = bI (TN d w 4) := by
    rw [hf 11 (by omega) (by omega)]
    simp (decide := true) only [FN, FNr, FNs, fA, fB, fC, f2, f1, fI, ↓reduceIte]
  obtain ⟨b0, b1, b2⟩ := ha
  have hs := C2_t b0
  have kn := nkn hE hW hs.1 e6
  have hsx := Scx hW w hs.1
  have hok := hs.2
  simp (decide := true) only [Sok, ↓reduceIte] at hok
  have p1 := of_decide_eq_true b1
  have p2 := of_decide_eq_true b2
  have oA := oprn hE hW (c := 7) (p1.1) e7 e10
  have oB := oprn hE hW (c := 8) (p2.1) e8 e11
  have nA := nsr hW w 3 (p1.1)
  have nB := nsr hW w 4 (p2.1)
  refine ⟨fun q => absurd q (by decide), fun q => absurd q (by decide), fun _ _ => oA.1, fun q => absurd q (by decide), fun _ => oB.1, fun q => absurd q (by decide), fun q => absurd q (by decide), fun q => absurd q (by decide), fun _ _ => ?_, fun q => absurd q (by decide), fun q => absurd q (by decide), fun q => absurd q (by decide), fun q => absurd q (by decide), fun q => absurd q (by decide), fun q => absurd q (by decide), fun q => absurd q (by decide), fun q => absurd q (by decide), fun q => absurd q (by decide), fun q => absurd q (by decide)⟩
  · rw [kn, oA.2.1, oB.2.1]; exact ⟨by omega, p1.2, p2.2⟩
theorem LK_14 {d d' : HI} {n w : Nat} (h : NL d d' n w 14) : LK d' 14 n := by
  obtain ⟨f, hf⟩ := NL_f h
  have ha := (NL_a h).2.2
  have hW := h.2.1.1
  have hE := h.2.2.1
  rw [CK_14] at ha
  simp only [List.all_cons, List.all_nil, Bool.and_eq_true, id, and_true] at ha
  have e6 : d' 6 n = SW d n w 2 := by
    rw [hf 6 (by omega) (by omega)]
    simp (decide := true) only [FN, FNr, FNs, fA, fB, fC, f2, f1, fI, ↓reduceIte]
  have e7 : d' 7 n = NW d n w 3 := by
    rw [hf 7 (by omega) (by omega)]
    simp (decide := true) only [FN, FNr, FNs, fA, fB, fC, f2, f1, fI, ↓reduceIte]
  have e10 : d' 10 n = bI (TN d w 3) := by
    rw [hf 10 (by omega) (by omega)]
    simp (decide := true) only [FN, FNr, FNs, fA, fB, fC, f2, f1, fI, ↓reduceIte]
  have e8 : d' 8 n = NW d n w 4 := by
    rw [hf 8 (by omega) (by omega)]
    simp (decide := true) only [FN, FNr, FNs, fA, fB, fC, f2, f1, fI, ↓reduceIte]
  have e11 : d' 11 n = bI (TN d w 4) := by
    rw [hf 11 (by omega) (by omega)]
    simp (decide := true) only [FN, FNr, FNs, fA, fB, fC, f2, f1, fI, ↓reduceIte]
  obtain ⟨b0, b1, b2⟩ := ha
  have hs := C2_t b0
  have kn := nkn hE hW hs.1 e6
  have hsx := Scx hW w hs.1
  have hok := hs.2
  simp (decide := true) only [Sok, ↓reduceIte] at hok
  have p1 := of_decide_eq_true b1
  have p2 := of_decide_eq_true b2
  have oA := oprn hE hW (c := 7) (p1.1) e7 e10
  have oB := oprn hE hW (c := 8) (p2.1) e8 e11
  have nA := nsr hW w 3 (p1.1)
  have nB := nsr hW w 4 (p2.1)
  refine ⟨fun q => absurd q (by decide), fun q => absurd q (by decide), fun _ _ => oA.1, fun q => absurd q (by decide), fun _ => oB.1, fun q => absurd q (by decide), fun q => absurd q (by decide), fun q => absurd q (by decide), fun _ _ => ?_, fun q => absurd q (by decide), fun q => absurd q (by decide), fun q => absurd q (by decide), fun q => absurd q (by decide), fun q => absurd q (by decide), fun q => absurd q (by decide), fun q => absurd q (by decide), fun q => absurd q (by decide), fun q => absurd q (by decide), fun q => absurd q (by decide)⟩
  · rw [kn, oA.2.1, oB.2.1]; exact ⟨by omega, p1.2, p2.2⟩
theorem LK_15 {d d' : HI} {n w : Nat} (h : NL d d' n w 15) : LK d' 15 n := by
  obtain ⟨f, hf⟩ := NL_f h
  have ha := (NL_a h).2.2
  have hW := h.2.1.1
  have hE := h.2.2.1
  rw [CK_15] at ha
  simp only [List.all_cons, List.all_nil, Bool.and_eq_true, id, and_true] at ha
  have e6 : d' 6 n = SW d n w 2 := by
    rw [hf 6 (by omega) (by omega)]
    simp (decide := true) only [FN, FNr, FNs, fA, fB, fC, f2, f1, fI, ↓reduceIte]
  have e7 : d' 7 n = NW d n w 3 := by
    rw [hf 7 (by omega) (by omega)]
    simp (decide := true) only [FN, FNr, FNs, fA, fB, fC, f2, f1, fI, ↓reduceIte]
  have e10 : d' 10 n = bI (TN d w 3) := by
    rw [hf 10 (by omega) (by omega)]
    simp (decide := true) only [FN, FNr, FNs, fA, fB, fC, f2, f1, fI, ↓reduceIte]
  have e8 : d' 8 n = NW d n w 4 := by
    rw [hf 8 (by omega) (by omega)]
    simp (decide := true) only [FN, FNr, FNs, fA, fB, fC, f2, f1, fI, ↓reduceIte]
  have e11 : d' 11 n = bI (TN d w 4) := by
    rw [hf 11 (by omega) (by omega)]
    simp (decide := true) only [FN, FNr, FNs, fA, fB, fC, f2, f1, fI, ↓reduceIte]
  obtain ⟨b0, b1, b2⟩ := ha
  have hs := C2_t b0
  have kn := nkn hE hW hs.1 e6
  have hsx := Scx hW w hs.1
  have hok := hs.2
  simp (decide := true) only [Sok, ↓reduceIte] at hok
  have p1 := of_decide_eq_true b1
  have p2 := of_decide_eq_true b2
  have oA := oprn hE hW (c := 7) (p1.1) e7 e10
  have oB := oprn hE hW (c := 8) (p2.1) e8 e11
  have nA := nsr hW w 3 (p1.1)
  have nB := nsr hW w 4 (p2.1)
  refine ⟨fun q => absurd q (by decide), fun q => absurd q (by decide), fun _ _ => oA.1, fun q => absurd q (by decide), fun _ => oB.1, fun q => absurd q (by decide), fun q => absurd q (by decide), fun q => absurd q (by decide), fun _ _ => ?_, fun q => absurd q (by decide), fun q => absurd q (by decide), fun q => absurd q (by decide), fun q => absurd q (by decide), fun q => absurd q (by decide), fun q => absurd q (by decide), fun q => absurd q (by decide), fun q => absurd q (by decide), fun q => absurd q (by decide), fun q => absurd q (by decide)⟩
  · rw [kn, oA.2.1, oB.2.1]; exact ⟨by omega, p1.2, p2.2⟩
theorem LK_16 {d d' : HI} {n w : Nat} (h : NL d d' n w 16) : LK d' 16 n := by
  obtain ⟨f, hf⟩ := NL_f h
  have ha := (NL_a h).2.2
  have hW := h.2.1.1
  have hE := h.2.2.1
  rw [CK_16] at ha
  simp only [List.all_cons, List.all_nil, Bool.and_eq_true, id, and_true] at ha
  have e6 : d' 6 n = SW d n w 2 := by
    rw [hf 6 (by omega) (by omega)]
    simp (decide := true) only [FN, FNr, FNs, fA, fB, fC, f2, f1, fI, ↓reduceIte]
  have e7 : d' 7 n = NW d n w 3 := by
    rw [hf 7 (by omega) (by omega)]
    simp (decide := true) only [FN, FNr, FNs, fA, fB, fC, f2, f1, fI, ↓reduceIte]
  have e10 : d' 10 n = bI (TN d w 3) := by
    rw [hf 10 (by omega) (by omega)]
    simp (decide := true) only [FN, FNr, FNs, fA, fB, fC, f2, f1, fI, ↓reduceIte]
  have e8 : d' 8 n = NW d n w 4 := by
    rw [hf 8 (by omega) (by omega)]
    simp (decide := true) only [FN, FNr, FNs, fA, fB, fC, f2, f1, fI, ↓reduceIte]
  have e11 : d' 11 n = bI (TN d w 4) := by
    rw [hf 11 (by omega) (by omega)]
    simp (decide := true) only [FN, FNr, FNs, fA, fB, fC, f2, f1, fI, ↓reduceIte]
  obtain ⟨b0, b1, b2⟩ := ha
  have hs := C2_t b0
  have kn := nkn hE hW hs.1 e6
  have hsx := Scx hW w hs.1
  have hok := hs.2
  simp (decide := true) only [Sok, ↓reduceIte] at hok
  have p1 := of_decide_eq_true b1
  have p2 := of_decide_eq_true b2
  have oA := oprn hE hW (c := 7) (p1.1) e7 e10
  have oB := oprn hE hW (c := 8) (p2.1) e8 e11
  have nA := nsr hW w 3 (p1.1)
  have nB := nsr hW w 4 (p2.1)
  refine ⟨fun q => absurd q (by decide), fun q => absurd q (by decide), fun _ _ => oA.1, fun q => absurd q (by decide), fun _ => oB.1, fun q => absurd q (by decide), fun q => absurd q (by decide), fun q => absurd q (by decide), fun _ _ => ?_, fun q => absurd q (by decide), fun q => absurd q (by decide), fun q => absurd q (by decide), fun q => absurd q (by decide), fun q => absurd q (by decide), fun q => absurd q (by decide), fun q => absurd q (by decide), fun q => absurd q (by decide), fun q => absurd q (by decide), fun q => absurd q (by decide)⟩
  · rw [kn, oA.2.1, oB.2.1]; exact ⟨by omega, p1.2, p2.2⟩
theorem LK_17 {d d' : HI} {n w : Nat} (h : NL d d' n w 17) : LK d' 17 n := by
  obtain ⟨f, hf⟩ := NL_f h
  have ha := (NL_a h).2.2
  have hW := h.2.1.1
  have hE := h.2.2.1
  rw [CK_17] at ha
  simp only [List.all_cons, List.all_nil, Bool.and_eq_true, id, and_true] at ha
  have e6 : d' 6 n = SW d n w 2 := by
    rw [hf 6 (by omega) (by omega)]
    simp (decide := true) only [FN, FNr, FNs, fA, fB, fC, f2, f1, fI, ↓reduceIte]
  have e7 : d' 7 n = NW d n w 3 := by
    rw [hf 7 (by omega) (by omega)]
    simp (decide := true) only [FN, FNr, FNs, fA, fB, fC, f2, f1, fI, ↓reduceIte]
  have e10 : d' 10 n = bI (TN d w 3) := by
    rw [hf 10 (by omega) (by omega)]
    simp (decide := true) only [FN, FNr, FNs, fA, fB, fC, f2, f1, fI, ↓reduceIte]
  have e8 : d' 8 n = NW d n w 4 := by
    rw [hf 8 (by omega) (by omega)]
    simp (decide := true) only [FN, FNr, FNs, fA, fB, fC, f2, f1, fI, ↓reduceIte]
  have e11 : d' 11 n = bI (TN d w 4) := by
    rw [hf 11 (by omega) (by omega)]
    simp (decide := true) only [FN, FNr, FNs, fA, fB, fC, f2, f1, fI, ↓reduceIte]
  obtain ⟨b0, b1, b2⟩ := ha
  have hs := C2_t b0
  have kn := nkn hE hW hs.1 e6
  have hsx := Scx hW w hs.1
  have hok := hs.2
  simp (decide := true) only [Sok, ↓reduceIte] at hok
  have p1 := of_decide_eq_true b1
  have p2 := of_decide_eq_true b2
  have oA := oprn hE hW (c := 7) (p1) e7 e10
  have oB := oprn hE hW (c := 8) (p2.1) e8 e11
  have nA := nsr hW w 3 (p1)
  have nB := nsr hW w 4 (p2.1)
  refine ⟨fun q => absurd q (by decide), fun q => absurd q (by decide), fun _ _ => oA.1, fun q => absurd q (by decide), fun _ => oB.1, fun q => absurd q (by decide), fun q => absurd q (by decide), fun q => absurd q (by decide), fun q1 q2 => absurd q2 (by decide), fun _ => ?_, fun q => absurd q (by decide), fun q => absurd q (by decide), fun q => absurd q (by decide), fun q => absurd q (by decide), fun q => absurd q (by decide), fun q => absurd q (by decide), fun q => absurd q (by decide), fun q => absurd q (by decide), fun q => absurd q (by decide)⟩
  · rw [kn, oA.2.1, oB.2.1]; exact ⟨hok, p2.2⟩
theorem LK_18 {d d' : HI} {n w : Nat} (h : NL d d' n w 18) : LK d' 18 n := by
  obtain ⟨f, hf⟩ := NL_f h
  have ha := (NL_a h).2.2
  have hW := h.2.1.1
  have hE := h.2.2.1
  rw [CK_18] at ha
  simp only [List.all_cons, List.all_nil, Bool.and_eq_true, id, and_true] at ha
  have e6 : d' 6 n = SW d n w 2 := by
    rw [hf 6 (by omega) (by omega)]
    simp (decide := true) only [FN, FNr, FNs, fA, fB, fC, f2, f1, fI, ↓reduceIte]
  have e7 : d' 7 n = NW d n w 3 := by
    rw [hf 7 (by omega) (by omega)]
    simp (decide := true) only [FN, FNr, FNs, fA, fB, fC, f2, f1, fI, ↓reduceIte]
  have e10 : d' 10 n = bI (TN d w 3) := by
    rw [hf 10 (by omega) (by omega)]
    simp (decide := true) only [FN, FNr, FNs, fA, fB, fC, f2, f1, fI, ↓reduceIte]
  have e8 : d' 8 n = NW d n w 4 := by
    rw [hf 8 (by omega) (by omega)]
    simp (decide := true) only [FN, FNr, FNs, fA, fB, fC, f2, f1, fI, ↓reduceIte]
  have e11 : d' 11 n = bI (TN d w 4) := by
    rw [hf 11 (by omega) (by omega)]
    simp (decide := true) only [FN, FNr, FNs, fA, fB, fC, f2, f1, fI, ↓reduceIte]
  obtain ⟨b0, b1, b2⟩ := ha
  have hs := C2_t b0
  have kn := nkn hE hW hs.1 e6
  have hsx := Scx hW w hs.1
  have hok := hs.2
  simp (decide := true) only [Sok, ↓reduceIte] at hok
  have p1 := of_decide_eq_true b1
  have p2 := of_decide_eq_true b2
  have oA := oprn hE hW (c := 7) (p1.1) e7 e10
  have oB := oprn hE hW (c := 8) (p2.1) e8 e11
  have nA := nsr hW w 3 (p1.1)
  have nB := nsr hW w 4 (p2.1)
  refine ⟨fun q => absurd q (by decide), fun q => absurd q (by decide), fun _ _ => oA.1, fun q => absurd q (by decide), fun _ => oB.1, fun q => absurd q (by decide), fun q => absurd q (by decide), fun q => absurd q (by decide), fun q1 q2 => absurd q2 (by decide), fun q => absurd q (by decide), fun _ => ?_, fun q => absurd q (by decide), fun q => absurd q (by decide), fun q => absurd q (by decide), fun q => absurd q (by decide), fun q => absurd q (by decide), fun q => absurd q (by decide), fun q => absurd q (by decide), fun q => absurd q (by decide)⟩
  · rw [kn, oA.2.1, oB.2.1]; exact ⟨hok, p1.2, p2.2⟩
theorem LK_19 {d d' : HI} {n w : Nat} (h : NL d d' n w 19) : LK d' 19 n := by
  obtain ⟨f, hf⟩ := NL_f h
  have ha := (NL_a h).2.2
  have hW := h.2.1.1
  have hE := h.2.2.1
  rw [CK_19] at ha
  simp only [List.all_cons, List.all_nil, Bool.and_eq_true, id, and_true] at ha
  have e6 : d' 6 n = SW d n w 2 := by
    rw [hf 6 (by omega) (by omega)]
    simp (decide := true) only [FN, FNr, FNs, fA, fB, fC, f2, f1, fI, ↓reduceIte]
  have e7 : d' 7 n = NW d n w 3 := by
    rw [hf 7 (by omega) (by omega)]
    simp (decide := true) only [FN, FNr, FNs, fA, fB, fC, f2, f1, fI, ↓reduceIte]
  have e10 : d' 10 n = bI (TN d w 3) := by
    rw [hf 10 (by omega) (by omega)]
    simp (decide := true) only [FN, FNr, FNs, fA, fB, fC, f2, f1, fI, ↓reduceIte]
  have e8 : d' 8 n = NW d n w 4 := by
    rw [hf 8 (by omega) (by omega)]
    simp (decide := true) only [FN, FNr, FNs, fA, fB, fC, f2, f1, fI, ↓reduceIte]
  have e11 : d' 11 n = bI (TN d w 4) := by
    rw [hf 11 (by omega) (by omega)]
    simp (decide := true) only [FN, FNr, FNs, fA, fB, fC, f2, f1, fI, ↓reduceIte]
  obtain ⟨b0, b1, b2⟩ := ha
  have hs := C2_t b0
  have kn := nkn hE hW hs.1 e6
  have hsx := Scx hW w hs.1
  have hok := hs.2
  simp (decide := true) only [Sok, ↓reduceIte] at hok
  have p1 := of_decide_eq_true b1
  have p2 := of_decide_eq_true b2
  have oA := oprn hE hW (c := 7) (p1.1) e7 e10
  have oB := oprn hE hW (c := 8) (p2.1) e8 e11
  have nA := nsr hW w 3 (p1.1)
  have nB := nsr hW w 4 (p2.1)
  refine ⟨fun q => absurd q (by decide), fun q => absurd q (by decide), fun _ _ => oA.1, fun q => absurd q (by decide), fun _ => oB.1, fun q => absurd q (by decide), fun q => absurd q (by decide), fun q => absurd q (by decide), fun q1 q2 => absurd q2 (by decide), fun q => absurd q (by decide), fun _ => ?_, fun q => absurd q (by decide), fun q => absurd q (by decide), fun q => absurd q (by decide), fun q => absurd q (by decide), fun q => absurd q (by decide), fun q => absurd q (by decide), fun q => absurd q (by decide), fun q => absurd q (by decide)⟩
  · rw [kn, oA.2.1, oB.2.1]; exact ⟨hok, p1.2, p2.2⟩
theorem LK_20 {d d' : HI} {n w : Nat} (h : NL d d' n w 20) : LK d' 20 n := by
  obtain ⟨f, hf⟩ := NL_f h
  have ha := (NL_a h).2.2
  have hW := h.2.1.1
  have hE := h.2.2.1
  rw [CK_20] at ha
  simp only [List.all_cons, List.all_nil, Bool.and_eq_true, id, and_true] at ha
  have e6 : d' 6 n = SW d n w 2 := by
    rw [hf 6 (by omega) (by omega)]
    simp (decide := true) only [FN, FNr, FNs, fA, fB, fC, f2, f1, fI, ↓reduceIte]
  have e7 : d' 7 n = NW d n w 3 := by
    rw [hf 7 (by omega) (by omega)]
    simp (decide := true) only [FN, FNr, FNs, fA, fB, fC, f2, f1, fI, ↓reduceIte]
  have e10 : d' 10 n = bI (TN d w 3) := by
    rw [hf 10 (by omega) (by omega)]
    simp (decide := true) only [FN, FNr, FNs, fA, fB, fC, f2, f1, fI, ↓reduceIte]
  have e8 : d' 8 n = NW d n w 4 := by
    rw [hf 8 (by omega) (by omega)]
    simp (decide := true) only [FN, FNr, FNs, fA, fB, fC, f2, f1, fI, ↓reduceIte]
  have e11 : d' 11 n = bI (TN d w 4) := by
    rw [hf 11 (by omega) (by omega)]
    simp (decide := true) only [FN, FNr, FNs, fA, fB, fC, f2, f1, fI, ↓reduceIte]
  obtain ⟨b0, b1, b2⟩ := ha
  have hs := C2_t b0
  have kn := nkn hE hW hs.1 e6
  have hsx := Scx hW w hs.1
  have hok := hs.2
  simp (decide := true) only [Sok, ↓reduceIte] at hok
  have p1 := of_decide_eq_true b1
  have p2 := of_decide_eq_true b2
  have oA := oprn hE hW (c := 7) (p1.1) e7 e10
  have oB := oprn hE hW (c := 8) (p2.1) e8 e11
  have nA := nsr hW w 3 (p1.1)
  have nB := nsr hW w 4 (p2.1)
  refine ⟨fun q => absurd q (by decide), fun q => absurd q (by decide), fun _ _ => oA.1, fun q => absurd q (by decide), fun _ => oB.1, fun q => absurd q (by decide), fun q => absurd q (by decide), fun q => absurd q (by decide), fun q1 q2 => absurd q2 (by decide), fun q => absurd q (by decide), fun q => absurd q (by decide), fun _ => ?_, fun q => absurd q (by decide), fun q => absurd q (by decide), fun q => absurd q (by decide), fun q => absurd q (by decide), fun q => absurd q (by decide), fun q => absurd q (by decide), fun q => absurd q (by decide)⟩
  · rw [kn, oA.2.1, oB.2.1]; exact ⟨by omega, p1.2.2, p2.2.2⟩
theorem LK_21 {d d' : HI} {n w : Nat} (h : NL d d' n w 21) : LK d' 21 n := by
  obtain ⟨f, hf⟩ := NL_f h
  have ha := (NL_a h).2.2
  have hW := h.2.1.1
  have hE := h.2.2.1
  rw [CK_21] at ha
  simp only [List.all_cons, List.all_nil, Bool.and_eq_true, id, and_true] at ha
  have e6 : d' 6 n = SW d n w 2 := by
    rw [hf 6 (by omega) (by omega)]
    simp (decide := true) only [FN, FNr, FNs, fA, fB, fC, f2, f1, fI, ↓reduceIte]
  have e7 : d' 7 n = NW d n w 3 := by
    rw [hf 7 (by omega) (by omega)]
    simp (decide := true) only [FN, FNr, FNs, fA, fB, fC, f2, f1, fI, ↓reduceIte]
  have e10 : d' 10 n = bI (TN d w 3) := by
    rw [hf 10 (by omega) (by omega)]
    simp (decide := true) only [FN, FNr, FNs, fA, fB, fC, f2, f1, fI, ↓reduceIte]
  have e8 : d' 8 n = -1 := by
    rw [hf 8 (by omega) (by omega)]
    simp (decide := true) only [FN, FNr, FNs, fA, fB, fC, f2, f1, fI, ↓reduceIte]
  have e14 : d' 14 n = NU d w 5 := by
    rw [hf 14 (by omega) (by omega)]
    simp (decide := true) only [FN, FNr, FNs, fA, fB, fC, f2, f1, fI, ↓reduceIte]
  have e13 : d' 13 n = NU d w 4 := by
    rw [hf 13 (by omega) (by omega)]
    simp (decide := true) only [FN, FNr, FNs, fA, fB, fC, f2, f1, fI, ↓reduceIte]
  obtain ⟨b0, b1, b2, b3⟩ := ha
  have hs := C2_t b0
  have kn := nkn hE hW hs.1 e6
  have hsx := Scx hW w hs.1
  have hok := hs.2
  simp (decide := true) only [Sok, ↓reduceIte] at hok
  have p1 := of_decide_eq_true b1
  have p2 := of_decide_eq_true b2
  have p3 := of_decide_eq_true b3
  have oA := oprn hE hW (c := 7) (p1.1) e7 e10
  have nA := nsr hW w 3 (p1.1)
  refine ⟨fun q => absurd q (by decide), fun q => absurd q (by decide), fun _ _ => oA.1, fun _ => e8, fun q => absurd q (by decide), fun q => absurd q (by decide), fun q => absurd q (by decide), fun q => absurd q (by decide), fun q1 q2 => absurd q2 (by decide), fun q => absurd q (by decide), fun q => absurd q (by decide), fun q => absurd q (by decide), fun _ => ?_, fun q => absurd q (by decide), fun q => absurd q (by decide), fun q => absurd q (by decide), fun q => absurd q (by decide), fun q => absurd q (by decide), fun q => absurd q (by decide)⟩
  · rcases NU_cases d w 4 with ez | ⟨U, hU, eU, _⟩
    · have := p2.1; rw [ez] at this; exact absurd this (by decide)
    rcases NU_cases d w 5 with ez | ⟨l, hl, el, _⟩
    · have := p3.1; rw [ez] at this; exact absurd this (by decide)
    have q2 := p2.2
    rw [eU, nI_ltI (by omega) (by omega)] at q2
    have q3 := p3.2
    have hle : l ≤ U + 1 := by
      by_cases c : l ≤ U
      · omega
      · exfalso
        have e2 : (nI U - nI l + 1).toInt = (U : Int) - l + 1 := by
          have : nI U - nI l + 1 = nI (U + 1) - nI l := by
            rw [← nI_1, Int32.sub_eq_add_neg, Int32.sub_eq_add_neg, Int32.add_assoc, Int32.add_assoc, Int32.add_comm (-nI l) 1]
          rw [this, pk_sub_toInt (by omega) (by omega)]; omega
        rw [eU, el] at q3
        rw [q3, nI_toInt (by omega)] at e2
        omega
    have e3 : U + 1 = sc d (SW d n w 2).toNatClampNeg + l := by
      rw [eU, el] at q3
      have : nI U - nI l + 1 = nI (U + 1 - l) := by
        have e4 : nI U - nI l + 1 = nI (U + 1) - nI l := by
          rw [← nI_1, Int32.sub_eq_add_neg, Int32.sub_eq_add_neg, Int32.add_assoc, Int32.add_assoc, Int32.add_comm (-nI l) 1]
        rw [e4, pk_sub hle]
      rw [this, nI_eq (by omega) (by omega)] at q3
      omega
    rw [kn, oA.2.1]
    exact ⟨by omega, p1.2, U, l, by rw [e14, el], q2, e3⟩
theorem LK_22 {d d' : HI} {n w : Nat} (h : NL d d' n w 22) : LK d' 22 n := by
  obtain ⟨f, hf⟩ := NL_f h
  have ha := (NL_a h).2.2
  have hW := h.2.1.1
  have hE := h.2.2.1
  rw [CK_22] at ha
  simp only [List.all_cons, List.all_nil, Bool.and_eq_true, id, and_true] at ha
  have e6 : d' 6 n = SW d n w 2 := by
    rw [hf 6 (by omega) (by omega)]
    simp (decide := true) only [FN, FNr, FNs, fA, fB, fC, f2, f1, fI, ↓reduceIte]
  have e7 : d' 7 n = NW d n w 3 := by
    rw [hf 7 (by omega) (by omega)]
    simp (decide := true) only [FN, FNr, FNs, fA, fB, fC, f2, f1, fI, ↓reduceIte]
  have e10 : d' 10 n = bI (TN d w 3) := by
    rw [hf 10 (by omega) (by omega)]
    simp (decide := true) only [FN, FNr, FNs, fA, fB, fC, f2, f1, fI, ↓reduceIte]
  have e8 : d' 8 n = -1 := by
    rw [hf 8 (by omega) (by omega)]
    simp (decide := true) only [FN, FNr, FNs, fA, fB, fC, f2, f1, fI, ↓reduceIte]
  obtain ⟨b0, b1, b2⟩ := ha
  have hs := C2_t b0
  have kn := nkn hE hW hs.1 e6
  have hsx := Scx hW w hs.1
  have hok := hs.2
  simp (decide := true) only [Sok, ↓reduceIte] at hok
  have p1 := of_decide_eq_true b1
  have p2 := of_decide_eq_true b2
  have oA := oprn hE hW (c := 7) (p1.1) e7 e10
  have nA := nsr hW w 3 (p1.1)
  refine ⟨fun q => absurd q (by decide), fun q => absurd q (by decide), fun _ _ => oA.1, fun _ => e8, fun q => absurd q (by decide), fun q => absurd q (by decide), fun q => absurd q (by decide), fun q => absurd q (by decide), fun q1 q2 => absurd q2 (by decide), fun q => absurd q (by decide), fun q => absurd q (by decide), fun q => absurd q (by decide), fun q => absurd q (by decide), fun _ => ?_, fun q => absurd q (by decide), fun q => absurd q (by decide), fun q => absurd q (by decide), fun q => absurd q (by decide), fun q => absurd q (by decide)⟩
  · rcases NU_cases d w 4 with ez | ⟨N, hN, eN, _⟩
    · have := p2.1; rw [ez] at this; exact absurd this (by decide)
    have q2 := p2.2
    rw [eN, nI_add, nI_eq (by omega) (by omega)] at q2
    rw [kn, oA.2.1]
    exact ⟨by omega, by omega⟩
theorem LK_23 {d d' : HI} {n w : Nat} (h : NL d d' n w 23) : LK d' 23 n := by
  obtain ⟨f, hf⟩ := NL_f h
  have ha := (NL_a h).2.2
  have hW := h.2.1.1
  have hE := h.2.2.1
  rw [CK_23] at ha
  simp only [List.all_cons, List.all_nil, Bool.and_eq_true, id, and_true] at ha
  have e6 : d' 6 n = SW d n w 2 := by
    rw [hf 6 (by omega) (by omega)]
    simp (decide := true) only [FN, FNr, FNs, fA, fB, fC, f2, f1, fI, ↓reduceIte]
  have e7 : d' 7 n = NW d n w 3 := by
    rw [hf 7 (by omega) (by omega)]
    simp (decide := true) only [FN, FNr, FNs, fA, fB, fC, f2, f1, fI, ↓reduceIte]
  have e10 : d' 10 n = bI (TN d w 3) := by
    rw [hf 10 (by omega) (by omega)]
    simp (decide := true) only [FN, FNr, FNs, fA, fB, fC, f2, f1, fI, ↓reduceIte]
  have e8 : d' 8 n = -1 := by
    rw [hf 8 (by omega) (by omega)]
    simp (decide := true) only [FN, FNr, FNs, fA, fB, fC, f2, f1, fI, ↓reduceIte]
  obtain ⟨b0, b1, b2⟩ := ha
  have hs := C2_t b0
  have kn := nkn hE hW hs.1 e6
  have hsx := Scx hW w hs.1
  have hok := hs.2
  simp (decide := true) only [Sok, ↓reduceIte] at hok
  have p1 := of_decide_eq_true b1
  have p2 := of_decide_eq_true b2
  have oA := oprn hE hW (c := 7) (p1.1) e7 e10
  have nA := nsr hW w 3 (p1.1)
  refine ⟨fun q => absurd q (by decide), fun q => absurd q (by decide), fun _ _ => oA.1, fun _ => e8, fun q => absurd q (by decide), fun q => absurd q (by decide), fun q => absurd q (by decide), fun q => absurd q (by decide), fun q1 q2 => absurd q2 (by decide), fun q => absurd q (by decide), fun q => absurd q (by decide), fun q => absurd q (by decide), fun q => absurd q (by decide), fun _ => ?_, fun q => absurd q (by decide), fun q => absurd q (by decide), fun q => absurd q (by decide), fun q => absurd q (by decide), fun q => absurd q (by decide)⟩
  · rcases NU_cases d w 4 with ez | ⟨N, hN, eN, _⟩
    · have := p2.1; rw [ez] at this; exact absurd this (by decide)
    have q2 := p2.2
    rw [eN, nI_add, nI_eq (by omega) (by omega)] at q2
    rw [kn, oA.2.1]
    exact ⟨by omega, by omega⟩
theorem LK_24 {d d' : HI} {n w : Nat} (h : NL d d' n w 24) : LK d' 24 n := by
  obtain ⟨f, hf⟩ := NL_f h
  have ha := (NL_a h).2.2
  have hW := h.2.1.1
  have hE := h.2.2.1
  rw [CK_24] at ha
  simp only [List.all_cons, List.all_nil, Bool.and_eq_true, id, and_true] at ha
  have e6 : d' 6 n = SW d n w 2 := by
    rw [hf 6 (by omega) (by omega)]
    simp (decide := true) only [FN, FNr, FNs, fA, fB, fC, f2, f1, fI, ↓reduceIte]
  have e7 : d' 7 n = NW d n w 4 := by
    rw [hf 7 (by omega) (by omega)]
    simp (decide := true) only [FN, FNr, FNs, fA, fB, fC, f2, f1, fI, ↓reduceIte]
  have e10 : d' 10 n = bI (TN d w 4) := by
    rw [hf 10 (by omega) (by omega)]
    simp (decide := true) only [FN, FNr, FNs, fA, fB, fC, f2, f1, fI, ↓reduceIte]
  have e8 : d' 8 n = NW d n w 5 := by
    rw [hf 8 (by omega) (by omega)]
    simp (decide := true) only [FN, FNr, FNs, fA, fB, fC, f2, f1, fI, ↓reduceIte]
  have e11 : d' 11 n = bI (TN d w 5) := by
    rw [hf 11 (by omega) (by omega)]
    simp (decide := true) only [FN, FNr, FNs, fA, fB, fC, f2, f1, fI, ↓reduceIte]
  have e9 : d' 9 n = NW d n w 3 := by
    rw [hf 9 (by omega) (by omega)]
    simp (decide := true) only [FN, FNr, FNs, fA, fB, fC, f2, f1, fI, ↓reduceIte]
  have e12 : d' 12 n = bI (TN d w 3) := by
    rw [hf 12 (by omega) (by omega)]
    simp (decide := true) only [FN, FNr, FNs, fA, fB, fC, f2, f1, fI, ↓reduceIte]
  obtain ⟨b0, b1, b2, b3⟩ := ha
  have hs := C2_t b0
  have kn := nkn hE hW hs.1 e6
  have hsx := Scx hW w hs.1
  have p1 := of_decide_eq_true b1
  have p2 := of_decide_eq_true b2
  have p3 := of_decide_eq_true b3
  have oA := oprn hE hW (c := 7) (p2.1) e7 e10
  have oB := oprn hE hW (c := 8) (p3.1) e8 e11
  have oC := oprn hE hW (c := 9) (p1.1) e9 e12
  have nA := nsr hW w 4 (p2.1)
  have nB := nsr hW w 5 (p3.1)
  have nC := nsr hW w 3 (p1.1)
  refine ⟨fun q => absurd q (by decide), fun q => absurd q (by decide), fun _ _ => oA.1, fun q => absurd q (by decide), fun _ => oB.1, fun _ => oC.1, fun q => absurd q (by decide), fun q => absurd q (by decide), fun q1 q2 => absurd q2 (by decide), fun q => absurd q (by decide), fun q => absurd q (by decide), fun q => absurd q (by decide), fun q => absurd q (by decide), fun q => absurd q (by decide), fun _ => ?_, fun q => absurd q (by decide), fun q => absurd q (by decide), fun q => absurd q (by decide), fun q => absurd q (by decide)⟩
  · rw [kn, oA.2.1, oB.2.1, oC.2.1]; exact ⟨p1.2, p2.2, p3.2⟩
theorem LK_25 {d d' : HI} {n w : Nat} (h : NL d d' n w 25) : LK d' 25 n := by
  obtain ⟨f, hf⟩ := NL_f h
  have ha := (NL_a h).2.2
  have hW := h.2.1.1
  have hE := h.2.2.1
  rw [CK_25] at ha
  simp only [List.all_cons, List.all_nil, Bool.and_eq_true, id, and_true] at ha
  have e6 : d' 6 n = SW d n w 2 := by
    rw [hf 6 (by omega) (by omega)]
    simp (decide := true) only [FN, FNr, FNs, fA, fB, fC, f2, f1, fI, ↓reduceIte]
  have e7 : d' 7 n = NW d n w 3 := by
    rw [hf 7 (by omega) (by omega)]
    simp (decide := true) only [FN, FNr, FNs, fA, fB, fC, f2, f1, fI, ↓reduceIte]
  have e10 : d' 10 n = bI (TN d w 3) := by
    rw [hf 10 (by omega) (by omega)]
    simp (decide := true) only [FN, FNr, FNs, fA, fB, fC, f2, f1, fI, ↓reduceIte]
  have e8 : d' 8 n = NW d n w 4 := by
    rw [hf 8 (by omega) (by omega)]
    simp (decide := true) only [FN, FNr, FNs, fA, fB, fC, f2, f1, fI, ↓reduceIte]
  have e11 : d' 11 n = bI (TN d w 4) := by
    rw [hf 11 (by omega) (by omega)]
    simp (decide := true) only [FN, FNr, FNs, fA, fB, fC, f2, f1, fI, ↓reduceIte]
  obtain ⟨b0, b1, b2⟩ := ha
  have hs := C2_t b0
  have kn := nkn hE hW hs.1 e6
  have hsx := Scx hW w hs.1
  have hok := hs.2
  simp (decide := true) only [Sok, ↓reduceIte] at hok
  have p1 := of_decide_eq_true b1
  have p2 := of_decide_eq_true b2
  have oA := oprn hE hW (c := 7) (p1.1) e7 e10
  have oB := oprn hE hW (c := 8) (p2.1) e8 e11
  have nA := nsr hW w 3 (p1.1)
  have nB := nsr hW w 4 (p2.1)
  refine ⟨fun q => absurd q (by decide), fun q => absurd q (by decide), fun _ _ => oA.1, fun q => absurd q (by decide), fun _ => oB.1, fun q => absurd q (by decide), fun q => absurd q (by decide), fun q => absurd q (by decide), fun q1 q2 => absurd q2 (by decide), fun q => absurd q (by decide), fun q => absurd q (by decide), fun q => absurd q (by decide), fun q => absurd q (by decide), fun q => absurd q (by decide), fun q => absurd q (by decide), fun _ => ?_, fun q => absurd q (by decide), fun q => absurd q (by decide), fun q => absurd q (by decide)⟩
  · rw [kn, oA.2.1, oB.2.1]
    have q1 := p1.2.2
    unfold wdt at q1
    rw [if_neg p1.2.1, if_pos (by omega)] at q1
    exact ⟨by omega, by omega, p2.2.2⟩
theorem LK_26 {d d' : HI} {n w : Nat} (h : NL d d' n w 26) : LK d' 26 n := by
  obtain ⟨f, hf⟩ := NL_f h
  have ha := (NL_a h).2.2
  have hW := h.2.1.1
  have hE := h.2.2.1
  rw [CK_26] at ha
  simp only [List.all_cons, List.all_nil, Bool.and_eq_true, id, and_true] at ha
  have e6 : d' 6 n = SW d n w 2 := by
    rw [hf 6 (by omega) (by omega)]
    simp (decide := true) only [FN, FNr, FNs, fA, fB, fC, f2, f1, fI, ↓reduceIte]
  have e7 : d' 7 n = NW d n w 3 := by
    rw [hf 7 (by omega) (by omega)]
    simp (decide := true) only [FN, FNr, FNs, fA, fB, fC, f2, f1, fI, ↓reduceIte]
  have e10 : d' 10 n = bI (TN d w 3) := by
    rw [hf 10 (by omega) (by omega)]
    simp (decide := true) only [FN, FNr, FNs, fA, fB, fC, f2, f1, fI, ↓reduceIte]
  have e8 : d' 8 n = NW d n w 4 := by
    rw [hf 8 (by omega) (by omega)]
    simp (decide := true) only [FN, FNr, FNs, fA, fB, fC, f2, f1, fI, ↓reduceIte]
  have e11 : d' 11 n = bI (TN d w 4) := by
    rw [hf 11 (by omega) (by omega)]
    simp (decide := true) only [FN, FNr, FNs, fA, fB, fC, f2, f1, fI, ↓reduceIte]
  have e9 : d' 9 n = NW d n w 5 := by
    rw [hf 9 (by omega) (by omega)]
    simp (decide := true) only [FN, FNr, FNs, fA, fB, fC, f2, f1, fI, ↓reduceIte]
  have e12 : d' 12 n = bI (TN d w 5) := by
    rw [hf 12 (by omega) (by omega)]
    simp (decide := true) only [FN, FNr, FNs, fA, fB, fC, f2, f1, fI, ↓reduceIte]
  obtain ⟨b0, b1, b2, b3⟩ := ha
  have hs := C2_t b0
  have kn := nkn hE hW hs.1 e6
  have hsx := Scx hW w hs.1
  have hok := hs.2
  simp (decide := true) only [Sok, ↓reduceIte] at hok
  have p1 := of_decide_eq_true b1
  have p2 := of_decide_eq_true b2
  have p3 := of_decide_eq_true b3
  have oA := oprn hE hW (c := 7) (p1.1) e7 e10
  have oB := oprn hE hW (c := 8) (p2.1) e8 e11
  have oC := oprn hE hW (c := 9) (p3.1) e9 e12
  have nA := nsr hW w 3 (p1.1)
  have nB := nsr hW w 4 (p2.1)
  have nC := nsr hW w 5 (p3.1)
  refine ⟨fun q => absurd q (by decide), fun q => absurd q (by decide), fun _ _ => oA.1, fun q => absurd q (by decide), fun _ => oB.1, fun _ => oC.1, fun q => absurd q (by decide), fun q => absurd q (by decide), fun q1 q2 => absurd q2 (by decide), fun q => absurd q (by decide), fun q => absurd q (by decide), fun q => absurd q (by decide), fun q => absurd q (by decide), fun q => absurd q (by decide), fun q => absurd q (by decide), fun q => absurd q (by decide), fun _ => ?_, fun q => absurd q (by decide), fun q => absurd q (by decide)⟩
  · rw [kn, oA.2.1, oB.2.1, oC.2.1]
    have q1 := p1.2.2
    have q3 := p3.2.2
    unfold wdt at q1 q3
    rw [if_neg p1.2.1, if_neg hok] at q1
    rw [if_neg hok] at q3
    exact ⟨by omega, by omega, p2.2.2, q3⟩
theorem LK_27 {d d' : HI} {n w : Nat} (h : NL d d' n w 27) : LK d' 27 n := by
  obtain ⟨f, hf⟩ := NL_f h
  have ha := (NL_a h).2.2
  have hW := h.2.1.1
  have hE := h.2.2.1
  rw [CK_27] at ha
  simp only [List.all_cons, List.all_nil, Bool.and_eq_true, id, and_true] at ha
  have e8 : d' 8 n = NW d n w 4 := by
    rw [hf 8 (by omega) (by omega)]
    simp (decide := true) only [FN, FNr, FNs, fA, fB, fC, f2, f1, fI, ↓reduceIte]
  have e11 : d' 11 n = bI (TN d w 4) := by
    rw [hf 11 (by omega) (by omega)]
    simp (decide := true) only [FN, FNr, FNs, fA, fB, fC, f2, f1, fI, ↓reduceIte]
  have e7 : d' 7 n = NW d n w 3 := by
    rw [hf 7 (by omega) (by omega)]
    simp (decide := true) only [FN, FNr, FNs, fA, fB, fC, f2, f1, fI, ↓reduceIte]
  obtain ⟨b0, b1, b2⟩ := ha
  have p0 := of_decide_eq_true b0
  have p1 := of_decide_eq_true b1
  have p2 := of_decide_eq_true b2
  have oB := oprn hE hW (c := 8) (p2.1) e8 e11
  have nB := nsr hW w 4 (p2.1)
  refine ⟨fun q => absurd q (by decide), fun q => absurd q (by decide), fun q1 q2 => absurd q2 (by decide), fun q => absurd q (by decide), fun _ => oB.1, fun q => absurd q (by decide), fun q => absurd q (by decide), fun q => absurd q (by decide), fun q1 q2 => absurd q2 (by decide), fun q => absurd q (by decide), fun q => absurd q (by decide), fun q => absurd q (by decide), fun q => absurd q (by decide), fun q => absurd q (by decide), fun q => absurd q (by decide), fun q => absurd q (by decide), fun q => absurd q (by decide), fun _ => ?_, fun q => absurd q (by decide)⟩
  · rcases NW_full hW w 3 with ez | ⟨a, s, ha3, hs, ea, hno, e6, e5, ht, en⟩
    · have := p1.1; rw [ez] at this; exact absurd this (by decide)
    have hn := hW.1
    have ca : (NW d n w 3).toNatClampNeg = a := by rw [ea]; exact nI_clamp (by omega)
    have e2 := p1.2.2.1
    rw [ca] at e2
    have na : nk d' a = ns d (NW d n w 3) := by
      rw [nk_c hE hW ha3 hno]; unfold ns; rw [ca]; rfl
    have eo : oix d' n 7 = a := by unfold oix; rw [e7]; exact ca
    refine ⟨⟨a, ha3, by rw [e7, ea], by rw [hE 5 (by omega) (by omega) a ha3]; exact e2, ?_⟩, ?_, fun z => ?_⟩
    · rw [hsq_c hE _ _ n (Nat.le_refl _), ← ea]; exact p1.2.2.2.2
    · rw [oB.2.1, eo, na, p1.2.2.2.1]; exact p2.2.1
    · have hz := p2.2.2
      rcases NW_full hW w 4 with ez | ⟨b, _, hb4, _, eb, _⟩
      · have := p2.1; rw [ez] at this; exact absurd this (by decide)
      have cb : (NW d n w 4).toNatClampNeg = b := by rw [eb]; exact nI_clamp (by omega)
      rw [oB.2.2, cb, FR_c hE hb4]
      rw [cb] at hz
      exact hz.resolve_left (by decide)
theorem LK_28 {d d' : HI} {n w : Nat} (h : NL d d' n w 28) : LK d' 28 n := by
  obtain ⟨f, hf⟩ := NL_f h
  have ha := (NL_a h).2.2
  have hW := h.2.1.1
  have hE := h.2.2.1
  rw [CK_28] at ha
  simp only [List.all_cons, List.all_nil, Bool.and_eq_true, id, and_true] at ha
  have e8 : d' 8 n = NW d n w 4 := by
    rw [hf 8 (by omega) (by omega)]
    simp (decide := true) only [FN, FNr, FNs, fA, fB, fC, f2, f1, fI, ↓reduceIte]
  have e11 : d' 11 n = bI (TN d w 4) := by
    rw [hf 11 (by omega) (by omega)]
    simp (decide := true) only [FN, FNr, FNs, fA, fB, fC, f2, f1, fI, ↓reduceIte]
  have e7 : d' 7 n = NW d n w 3 := by
    rw [hf 7 (by omega) (by omega)]
    simp (decide := true) only [FN, FNr, FNs, fA, fB, fC, f2, f1, fI, ↓reduceIte]
  obtain ⟨b0, b1, b2⟩ := ha
  have p0 := of_decide_eq_true b0
  have p1 := of_decide_eq_true b1
  have p2 := of_decide_eq_true b2
  have oB := oprn hE hW (c := 8) (p2.1) e8 e11
  have nB := nsr hW w 4 (p2.1)
  refine ⟨fun q => absurd q (by decide), fun q => absurd q (by decide), fun q1 q2 => absurd q2 (by decide), fun q => absurd q (by decide), fun _ => oB.1, fun q => absurd q (by decide), fun q => absurd q (by decide), fun q => absurd q (by decide), fun q1 q2 => absurd q2 (by decide), fun q => absurd q (by decide), fun q => absurd q (by decide), fun q => absurd q (by decide), fun q => absurd q (by decide), fun q => absurd q (by decide), fun q => absurd q (by decide), fun q => absurd q (by decide), fun q => absurd q (by decide), fun _ => ?_, fun q => absurd q (by decide)⟩
  · rcases NW_full hW w 3 with ez | ⟨a, s, ha3, hs, ea, hno, e6, e5, ht, en⟩
    · have := p1.1; rw [ez] at this; exact absurd this (by decide)
    have hn := hW.1
    have ca : (NW d n w 3).toNatClampNeg = a := by rw [ea]; exact nI_clamp (by omega)
    have e2 := p1.2.2.1
    rw [ca] at e2
    have na : nk d' a = ns d (NW d n w 3) := by
      rw [nk_c hE hW ha3 hno]; unfold ns; rw [ca]; rfl
    have eo : oix d' n 7 = a := by unfold oix; rw [e7]; exact ca
    refine ⟨⟨a, ha3, by rw [e7, ea], by rw [hE 5 (by omega) (by omega) a ha3]; exact e2, ?_⟩, ?_, fun z => ?_⟩
    · rw [hsq_c hE _ _ n (Nat.le_refl _), ← ea]; exact p1.2.2.2.2
    · rw [oB.2.1, eo, na, p1.2.2.2.1]; exact p2.2.1
    · have hz := p2.2.2
      rcases NW_full hW w 4 with ez | ⟨b, _, hb4, _, eb, _⟩
      · have := p2.1; rw [ez] at this; exact absurd this (by decide)
      have cb : (NW d n w 4).toNatClampNeg = b := by rw [eb]; exact nI_clamp (by omega)
      rw [oB.2.2, cb, FR_c hE hb4]
      rw [cb] at hz
      exact absurd z (by decide)
theorem LK_29 {d d' : HI} {n w : Nat} (h : NL d d' n w 29) : LK d' 29 n := by
  obtain ⟨f, hf⟩ := NL_f h
  have ha := (NL_a h).2.2
  have hW := h.2.1.1
  have hE := h.2.2.1
  rw [CK_29] at ha
  simp only [List.all_cons, List.all_nil, Bool.and_eq_true, id, and_true] at ha
  have e7 : d' 7 n = NW d n w 2 := by
    rw [hf 7 (by omega) (by omega)]
    simp (decide := true) only [FN, FNr, FNs, fA, fB, fC, f2, f1, fI, ↓reduceIte]
  have e10 : d' 10 n = bI (TN d w 2) := by
    rw [hf 10 (by omega) (by omega)]
    simp (decide := true) only [FN, FNr, FNs, fA, fB, fC, f2, f1, fI, ↓reduceIte]
  have p0 := of_decide_eq_true ha
  have oA := oprn hE hW (c := 7) (p0.1) e7 e10
  have nA := nsr hW w 2 (p0.1)
  refine ⟨fun q => absurd q (by decide), fun q => absurd q (by decide), fun q1 q2 => absurd q2 (by decide), fun q => absurd q (by decide), fun q => absurd q (by decide), fun q => absurd q (by decide), fun q => absurd q (by decide), fun q => absurd q (by decide), fun q1 q2 => absurd q2 (by decide), fun q => absurd q (by decide), fun q => absurd q (by decide), fun q => absurd q (by decide), fun q => absurd q (by decide), fun q => absurd q (by decide), fun q => absurd q (by decide), fun q => absurd q (by decide), fun q => absurd q (by decide), fun q => absurd q (by decide), fun _ => ?_⟩
  · exact ⟨oA.1, by rw [oA.2.1]; exact p0.2⟩
theorem LK_30 {d d' : HI} {n w : Nat} (h : NL d d' n w 30) : LK d' 30 n := by
  obtain ⟨f, hf⟩ := NL_f h
  have ha := (NL_a h).2.2
  have hW := h.2.1.1
  have hE := h.2.2.1
  rw [CK_30] at ha
  simp only [List.all_cons, List.all_nil, Bool.and_eq_true, id, and_true] at ha
  have e7 : d' 7 n = NW d n w 2 := by
    rw [hf 7 (by omega) (by omega)]
    simp (decide := true) only [FN, FNr, FNs, fA, fB, fC, f2, f1, fI, ↓reduceIte]
  have e10 : d' 10 n = bI (TN d w 2) := by
    rw [hf 10 (by omega) (by omega)]
    simp (decide := true) only [FN, FNr, FNs, fA, fB, fC, f2, f1, fI, ↓reduceIte]
  have p0 := of_decide_eq_true ha
  have oA := oprn hE hW (c := 7) (p0.1) e7 e10
  have nA := nsr hW w 2 (p0.1)
  refine ⟨fun q => absurd q (by decide), fun q => absurd q (by decide), fun q1 q2 => absurd q2 (by decide), fun q => absurd q (by decide), fun q => absurd q (by decide), fun q => absurd q (by decide), fun q => absurd q (by decide), fun q => absurd q (by decide), fun q1 q2 => absurd q2 (by decide), fun q => absurd q (by decide), fun q => absurd q (by decide), fun q => absurd q (by decide), fun q => absurd q (by decide), fun q => absurd q (by decide), fun q => absurd q (by decide), fun q => absurd q (by decide), fun q => absurd q (by decide), fun q => absurd q (by decide), fun _ => ?_⟩
  · exact ⟨oA.1, by rw [oA.2.1]; exact p0.2⟩
theorem LK_n {d d' : HI} {n w κ : Nat} (h : NL d d' n w κ) : LK d' κ n := by
  have hκ := h.2.2.2.1
  have hc : κ = 0 ∨ κ = 1 ∨ κ = 2 ∨ κ = 3 ∨ κ = 4 ∨ κ = 5 ∨ κ = 6 ∨ κ = 7 ∨ κ = 8 ∨ κ = 9 ∨ κ = 10 ∨ κ = 11 ∨ κ = 12 ∨ κ = 13 ∨ κ = 14 ∨ κ = 15 ∨ κ = 16 ∨ κ = 17 ∨ κ = 18 ∨ κ = 19 ∨ κ = 20 ∨ κ = 21 ∨ κ = 22 ∨ κ = 23 ∨ κ = 24 ∨ κ = 25 ∨ κ = 26 ∨ κ = 27 ∨ κ = 28 ∨ κ = 29 ∨ κ = 30 := by omega
  rcases hc with rfl | rfl | rfl | rfl | rfl | rfl | rfl | rfl | rfl | rfl | rfl | rfl | rfl | rfl | rfl | rfl | rfl | rfl | rfl | rfl | rfl | rfl | rfl | rfl | rfl | rfl | rfl | rfl | rfl | rfl | rfl
  · exact LK_0 h
  · exact LK_1 h
  · exact LK_2 h
  · exact LK_3 h
  · exact LK_4 h
  · exact LK_5 h
  · exact LK_6 h
  · exact LK_7 h
  · exact LK_8 h
  · exact LK_9 h
  · exact LK_10 h
  · exact LK_11 h
  · exact LK_12 h
  · exact LK_13 h
  · exact LK_14 h
  · exact LK_15 h
  · exact LK_16 h
  · exact LK_17 h
  · exact LK_18 h
  · exact LK_19 h
  · exact LK_20 h
  · exact LK_21 h
  · exact LK_22 h
  · exact LK_23 h
  · exact LK_24 h
  · exact LK_25 h
  · exact LK_26 h
  · exact LK_27 h
  · exact LK_28 h
  · exact LK_29 h
  · exact LK_30 h
